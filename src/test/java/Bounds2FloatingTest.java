/** Section 2, promises 5 to 8, at their bounds. */
public final class Bounds2FloatingTest {
  public static void main(String[] args) throws Exception {
    Bounds.run(Bounds2FloatingTest.class);
  }

  private static KeelHouse box() {
    KeelHouse yard = new KeelHouse();
    yard.draw(0, 40, 6, 40);
    return yard;
  }

  static void promise5PutTonnes1To900() {
    Bounds.argument("put, tonnes", Bounds2FloatingTest::box, 1, 900, (yard, tonnes) -> yard.put(0, tonnes, 0, 0, 0));
  }

  static void promise5PutCompartment0To5() {
    Bounds.index("put, compartment", Bounds2FloatingTest::box, 0, 5, (yard, c) -> yard.put(0, 1, c, 0, 0));
  }

  static void promise5PutSide64ToPortAndTo64ToStarboard() {
    Bounds.argument("put, side", Bounds2FloatingTest::box, -64, 64, (yard, side) -> yard.put(0, 1, 0, side, 0));
  }

  static void promise5PutUp0To160() {
    Bounds.argument("put, up", Bounds2FloatingTest::box, 0, 160, (yard, up) -> yard.put(0, 1, 0, 0, up));
  }

  static void promise5PutSixAtMost() {
    KeelHouse yard = box();
    for (int item = 0; item < 6; item++) {
      Check.same("put", item, yard.put(0, 1, 0, 0, 0));
    }
    Check.badState(yard, "the seventh", () -> yard.put(0, 1, 0, 0, 0));
    yard.take(0, 3);
    Check.same("the sixth once more", 5, yard.put(0, 1, 0, 0, 0));
    Check.same("all of them weigh", 6.0, yard.floats(0, 0));
  }

  static void promise5PutNotIfGone() {
    Bounds.onlyAt("put", Place.NOT_GONE, yard -> yard.put(0, 1, 0, 0, 0));
  }

  static void promise5TakeItemsThatAreThere() {
    KeelHouse yard = box();
    for (int many = 0; many <= 6; many++) {
      int beyond = many;
      Check.noIndex(yard, "take " + beyond + " of as many", () -> yard.take(0, beyond));
      Check.noIndex(yard, "take -1", () -> yard.take(0, -1));
      if (many < 6) {
        yard.put(0, 1 << many, many, 0, 0);
      }
    }
    Check.same("take the last one", 5, yard.take(0, 5));
    Check.same("weight", 31.0, yard.floats(0, 0));
    Check.same("take the first one", 4, yard.take(0, 0));
    Check.same("weight", 30.0, yard.floats(0, 0));
    Check.same("take the one that is the last now", 3, yard.take(0, 3));
    Check.same("weight", 14.0, yard.floats(0, 0));
    Check.noIndex(yard, "take 3 of three", () -> yard.take(0, 3));
  }

  static void promise5TakeNotIfGone() {
    for (Place place : Place.values()) {
      KeelHouse yard = place.yard();
      if (Place.NOT_GONE.contains(place)) {
        yard.put(0, 1, 0, 0, 0);
        Check.same("take at " + place, 0, yard.take(0, 0));
      } else if (place == Place.LOST) {
        Check.badState(yard, "take at " + place, () -> yard.take(0, 0));
      }
    }
    KeelHouse sold = Place.READY.yard();
    sold.put(0, 1, 0, 0, 0);
    sold.bid(0, 0, 400);
    sold.handOver(0);
    Check.badState(sold, "take from a sold one", () -> sold.take(0, 0));
    Check.noIndex(sold, "take 1 from a sold one", () -> sold.take(0, 1));
  }

  static void promise6FillOf0To888888() {
    Bounds.argument("fill", Bounds2FloatingTest::box, 0, 888888, (yard, fills) -> yard.fill(0, fills));
  }

  static void promise6FillDigitOf8And9() {
    KeelHouse yard = box();
    int place = 1;
    for (int c = 0; c < 6; c++) {
      int eight = 8 * place;
      int nine = 9 * place;
      Bounds.taken(yard, "fill of " + eight, () -> yard.fill(0, eight));
      Check.near("where it is", (c + 0.5) * 40 / 6, yard.floats(0, 1));
      Check.badArgument(yard, "fill of " + nine, () -> yard.fill(0, nine));
      Check.same("fill of 0 tells what was", 8, yard.fill(0, 0));
      place *= 10;
    }
    Check.badArgument(yard, "a nine among others", () -> yard.fill(0, 888988));
  }

  static void promise6FillNotIfGone() {
    Bounds.onlyAt("fill", Place.NOT_GONE, yard -> yard.fill(0, 8));
  }

  static void promise6BulkheadsSetOf0To31() {
    Bounds.argument("bulkheads", Bounds2FloatingTest::box, 0, 31, (yard, set) -> yard.bulkheads(0, set));
  }

  static void promise6BulkheadsDrawnOrOnTheSlip() {
    Bounds.onlyAt("bulkheads", java.util.EnumSet.of(Place.DRAWN, Place.SLIP), yard -> yard.bulkheads(0, 3));
  }

  static void promise7FloatsWhat0To8() {
    Bounds.argument("floats", Bounds2FloatingTest::box, 0, 8, (yard, what) -> yard.floats(0, what));
  }

  static void promise7FloodHoled0To63() {
    Bounds.argument("flood", Bounds2FloatingTest::box, 0, 63, (yard, holed) -> yard.flood(0, holed, true));
    Bounds.argument("flood", Bounds2FloatingTest::box, 0, 63, (yard, holed) -> yard.flood(0, holed, false));
  }

  /** A tank without room weighs nothing, however full. */
  static void section2WeightOf0() {
    KeelHouse yard = box();
    for (int station = 0; station < 7; station++) {
      yard.offset(0, station, 1, 0);
    }
    yard.fill(0, 444444);
    for (int what : new int[] {0, 1, 2, 3, 8}) {
      Check.same("floats(0, " + what + ") without weight", 0.0, yard.floats(0, what));
    }
    yard.offset(0, 6, 1, 1);
    Check.near("weight of the half of a tank", 1 / 16.0 * 6 / 4 * 40 / 6 / 2, yard.floats(0, 0));
    Check.near("lcg", 5.5 * 40 / 6, yard.floats(0, 1));
    Check.same("free is more than 0.0", true, yard.floats(0, 8) > 0.0);
  }

  /** 26 * 23 * 7 lifts 0.00099 at its first step, 35 * 20 * 6 lifts 0.00100 there. */
  static void section2FloatsOfNothingWithAVolumeBelowAThousandth() {
    KeelHouse little = new KeelHouse();
    little.draw(0, 26, 7, 23);
    Check.same("gm without a volume", 0.0, little.floats(0, 5));
    Check.same("list without a volume", 10.0, little.floats(0, 6));
    KeelHouse more = new KeelHouse();
    more.draw(0, 35, 6, 20);
    Check.same("gm with one", true, more.floats(0, 5) > 1.0);
    Check.same("list with one", 0.0, more.floats(0, 6));
  }

  static void section2FreeWithAFillOf0And1And7And8() {
    int place = 1;
    for (int c = 0; c < 6; c++) {
      for (int fill = 0; fill <= 8; fill++) {
        KeelHouse yard = box();
        yard.put(0, 100, 2, 0, 0);
        yard.fill(0, fill * place);
        double weight = 100 + 50.0 * fill / 8;
        double due = fill == 0 || fill == 8 ? 0.0 : 1000.0 * 40 / 72 / weight;
        Check.near("free of the tank " + c + " with " + fill, due, yard.floats(0, 8));
      }
      place *= 10;
    }
  }

  private static KeelHouse upright(int tonnes, int up, int more) {
    KeelHouse yard = box();
    yard.put(0, tonnes, 2, 0, up);
    yard.put(0, more, 3, 0, 24);
    return yard;
  }

  static void section2GmOf5HundredthsOrLess() {
    KeelHouse below = upright(475, 49, 840);
    Check.within("gm", 0.0498, 0.05, below.floats(0, 5));
    Check.same("list", 10.0, below.floats(0, 6));
    KeelHouse above = upright(850, 38, 480);
    Check.within("gm", 0.05001, 0.0504, above.floats(0, 5));
    Check.same("list", 0.0, above.floats(0, 6));
  }

  private static KeelHouse leaning(int tonnes, int side, int more) {
    KeelHouse yard = box();
    yard.put(0, tonnes, 2, side, 20);
    yard.put(0, more, 3, 0, 24);
    return yard;
  }

  /** For each step what leans just as much, or a bit less, and what leans a bit more; to both sides. */
  static void section2ListByEachStep() {
    double[] steps = {0.02, 0.09, 0.18, 0.27, 0.36, 0.47, 0.58, 0.7, 0.84, 1.0};
    int[][] below = {{20, 24, 100}, {320, 4, 620}, {320, 8, 620}, {120, 41, 340}, {580, 11, 60}, {300, 22, 660},
      {180, 47, 620}, {680, 18, 20}, {620, 20, 620}, {440, 43, 60}};
    int[][] above = {{120, 4, 20}, {240, 8, 60}, {220, 15, 260}, {160, 26, 540}, {140, 35, 780}, {520, 13, 620},
      {660, 14, 860}, {260, 36, 860}, {700, 20, 900}, {360, 55, 60}};
    for (int k = 0; k < 10; k++) {
      for (int turn = -1; turn <= 1; turn += 2) {
        KeelHouse less = leaning(below[k][0], turn * below[k][1], below[k][2]);
        double lean = turn * less.floats(0, 2) / less.floats(0, 5);
        Check.within("lean " + k, steps[k] * 0.9995, steps[k], lean);
        Check.same("list with a lean of " + lean, (double) k, less.floats(0, 6));
        KeelHouse more = leaning(above[k][0], turn * above[k][1], above[k][2]);
        lean = turn * more.floats(0, 2) / more.floats(0, 5);
        Check.within("lean " + k, steps[k], steps[k] * 1.001, lean);
        Check.same("list with a lean of " + lean, k + 1.0, more.floats(0, 6));
      }
    }
  }

  /** 2400 tonnes are all of its volume; with one more it would sink. */
  static void section2WeightOfAllItsVolume() {
    KeelHouse yard = box();
    yard.put(0, 900, 0, 8, 0);
    yard.put(0, 900, 5, 8, 0);
    yard.put(0, 600, 2, 8, 0);
    Check.same("t", 6.0, yard.floats(0, 4));
    Check.same("gm is told", true, yard.floats(0, 5) > 3.0);
    Check.same("list is told", true, yard.floats(0, 6) < 10.0);
    Check.same("trim is told", true, yard.floats(0, 7) != 0.0);
    yard.put(0, 1, 2, 8, 0);
    double[] due = {2401.0, 0.0, 1.0, 0.0, -1.0, 0.0, 10.0, 0.0, 0.0};
    for (int what : new int[] {0, 2, 3, 4, 5, 6, 7, 8}) {
      Check.same("floats(0, " + what + ") with one more", due[what], yard.floats(0, what));
    }
    Check.near("lcg", (900 * 0.5 + 900 * 5.5 + 601 * 2.5) * 40 / 6 / 2401, yard.floats(0, 1));
    Check.same("flood", -1.0, yard.flood(0, 0, false));
    Check.same("flood, the set", -1.0, yard.flood(0, 0, true));
    Check.same("test", -1.0, yard.test(0, 0, false, 6));
    Check.same("weakest", -1, yard.weakest(0, false));
    Check.same("lies", -1, yard.lies(0, 2));
    Check.same("speed", 0.0, yard.speed(0, 2000));
  }

  static void section2FreeIsToldWithoutADraughtToo() {
    KeelHouse yard = box();
    for (int i = 0; i < 3; i++) {
      yard.put(0, 900, 2, 0, 0);
    }
    yard.fill(0, 7);
    Check.same("t", -1.0, yard.floats(0, 4));
    Check.near("free", 1000.0 * 40 / 72 / 2743.75, yard.floats(0, 8));
  }

  /** All of its breadth is amidships; above 9 metres the station 2 has a bit, too. */
  static void section2TrimWithAlongBelowAThousandth() {
    for (int more = 836; more <= 837; more++) {
      KeelHouse yard = new KeelHouse();
      yard.draw(0, 20, 12, 16);
      for (int at = 0; at < 35; at++) {
        yard.offset(0, at / 5, at % 5, at / 5 == 3 ? 80 : at == 14 ? 1 : 0);
      }
      yard.put(0, more, 0, 0, 0);
      double trim = yard.floats(0, 7);
      Check.same("trim with " + more + " is 0.0", more == 836, trim == 0.0);
      Check.same("trim with an along of a thousandth", true, trim == 0.0 || trim < -100000.0);
    }
  }

  static void section2BulkheadsEachForItself() {
    for (int k = 0; k < 5; k++) {
      KeelHouse yard = box();
      yard.bulkheads(0, 1 << k);
      for (int c = 0; c < 6; c++) {
        int ahead = (1 << k + 1) - 1;
        Check.same("holed " + c + " with a bulkhead " + k, (double) (c <= k ? ahead : 63 - ahead),
            yard.flood(0, 1 << c, true));
      }
      Check.same("holed on both sides", 63.0, yard.flood(0, 33, true));
      Check.same("none is holed", 0.0, yard.flood(0, 0, true));
    }
    KeelHouse all = box();
    all.bulkheads(0, 31);
    for (int holed = 0; holed < 64; holed++) {
      Check.same("all of them, " + holed, (double) holed, all.flood(0, holed, true));
    }
  }

  /** The last compartment has no breadth, so that no water comes in there: it lies as it floats. */
  private static KeelHouse withoutStem(int tonnes) {
    KeelHouse yard = new KeelHouse();
    yard.draw(0, 36, 6, 40);
    for (int at = 25; at < 35; at++) {
      yard.offset(0, at / 5, at % 5, 0);
    }
    yard.put(0, Math.min(tonnes, 900), 2, 0, 0);
    if (tonnes > 900) {
      yard.put(0, tonnes - 900, 1, 0, 0);
    }
    return yard;
  }

  static void section2FloodAtSevenEighthsOfDepthAndAbove() {
    KeelHouse yard = withoutStem(1365);
    yard.bulkheads(0, 31);
    Check.same("t", 5.25, yard.floats(0, 4));
    Check.same("at 7 / 8 of its depth", 5.25, yard.flood(0, 32, false));
    Check.same("the bulkhead holds", 32.0, yard.flood(0, 32, true));
    yard.put(0, 1, 2, 0, 0);
    Check.same("above that it does not, and more and more is flooded", -1.0, yard.flood(0, 32, true));
    Check.same("it sinks", -1.0, yard.flood(0, 32, false));
  }

  static void section2FloodOfNoneAboveSevenEighths() {
    KeelHouse yard = box();
    for (int i = 0; i < 2; i++) {
      yard.put(0, 900, 2, 0, 0);
      yard.put(0, 200, 3, 0, 0);
    }
    Check.within("t", 5.5, 5.51, yard.floats(0, 4));
    Check.same("none is flooded", 0.0, yard.flood(0, 0, true));
    Check.same("it lies as it floats", yard.floats(0, 4), yard.flood(0, 0, false));
  }

  /** All are flooded at once: above 7 / 8 one does not look once more, so 12 times are all. */
  static void section2FloodOfAllAboveSevenEighths() {
    KeelHouse yard = box();
    yard.put(0, 545, 2, 0, 0);
    double t = 545 / 400.0;
    for (int i = 0; i < 12; i++) {
      t = 545 / 400.0 + 0.75 * t;
    }
    Check.same("above it", true, t > 5.25);
    Check.within("t", t - 1e-4, t + 1e-4, yard.flood(0, 1, false));
    Check.same("all are flooded", 63.0, yard.flood(0, 1, true));
  }

  /** All but the last one are flooded, then that, too: 12 times, and 12 times more from there on. */
  static void section2FloodLooksTwelveTimesAndOnceMore() {
    KeelHouse yard = withoutStem(339);
    yard.bulkheads(0, 16);
    double t = 339 / 260.0;
    for (int i = 0; i < 24; i++) {
      t = (339 + 202.5 * t) / 260.0;
      Check.same("above 7 / 8 at the twelfth time", true, i != 11 || t > 5.25);
    }
    Check.within("t", t - 1e-4, t + 1e-4, yard.flood(0, 1, false));
    Check.same("all are flooded at last", 63.0, yard.flood(0, 1, true));
    KeelHouse light = withoutStem(300);
    light.bulkheads(0, 16);
    Check.same("a lighter one stays below", 31.0, light.flood(0, 1, true));
  }

  /** What is beside a flooded one is flooded beyond the brim, and what is beside that without a bulkhead. */
  static void section2FloodBesideWithABulkheadAndThenWithout() {
    KeelHouse yard = withoutStem(1366);
    yard.bulkheads(0, 16 + 4);
    Check.same("32, then 8 and 16, then all: it sinks", -1.0, yard.flood(0, 32, true));
    KeelHouse small = new KeelHouse();
    small.draw(0, 36, 6, 40);
    for (int at = 10; at < 35; at++) {
      small.offset(0, at / 5, at % 5, 0);
    }
    small.bulkheads(0, 31 - 8);
    int tonnes = 1 + 36 * 5 * 525 / 180;
    small.put(0, tonnes, 0, 0, 0);
    Check.within("t", 5.2501, 5.27, small.floats(0, 4));
    Check.same("5, and 3 and 4 at once, and 2: then it sinks", -1.0, small.flood(0, 32, true));
    small.take(0, 0);
    small.put(0, tonnes - 1, 0, 0, 0);
    Check.same("at the brim 5 alone", 32.0, small.flood(0, 32, true));
  }

  /** With 1400 tonnes it bears two that are flooded, but not three; an empty one bears all. */
  static void promise8SurvivesPairs() {
    int[] sets = {31, 31 - 1, 31 - 2, 31 - 4, 31 - 8, 31 - 16, 0};
    int[] due = {5, 4, 3, 3, 3, 4, 0};
    for (int i = 0; i < sets.length; i++) {
      KeelHouse yard = box();
      yard.bulkheads(0, sets[i]);
      yard.put(0, 900, 2, 0, 0);
      yard.put(0, 500, 3, 0, 0);
      Check.same("survives with the bulkheads " + sets[i], due[i], yard.survives(0));
    }
    Check.same("survives empty", 5, box().survives(0));
  }

  /** The water is asked 12 times: what would sink at last may still float by then. */
  static void promise8SurvivesIfItFloatsByThen() {
    int least = 0;
    for (int tonnes = 560; tonnes <= 700; tonnes++) {
      KeelHouse yard = box();
      yard.put(0, tonnes, 2, 0, 0);
      double t = tonnes / 400.0;
      for (int i = 0; i < 12 && t <= 6.0; i++) {
        t = tonnes / 400.0 + 0.75 * t;
      }
      if (Math.abs(t - 6.0) > 1e-3) {
        Check.same("survives with " + tonnes, t <= 6.0 ? 5 : 0, yard.survives(0));
        least = t <= 6.0 ? tonnes : least;
      }
    }
    Check.same("the most that it survives with", 614, least);
  }

  /** 150 tonnes at a draught of 1.0, with a gm of 0.5: what leans just as much as a step tells. */
  static void section2ListOfJustEachStep() {
    int[] tonnes = {12, 54, 108, 81, 108, 141, 116, 140, 126, 120};
    int[] sides = {1, 1, 1, 2, 2, 2, 3, 3, 4, 5};
    double[] steps = {0.02, 0.09, 0.18, 0.27, 0.36, 0.47, 0.58, 0.7, 0.84, 1.0};
    for (int k = 0; k < 10; k++) {
      for (int turn = -1; turn <= 1; turn += 2) {
        KeelHouse yard = new KeelHouse();
        yard.draw(0, 25, 8, 24);
        yard.put(0, tonnes[k], 2, turn * sides[k], 24);
        yard.put(0, 150 - tonnes[k], 3, 0, 24);
        Check.same("gm", 0.5, yard.floats(0, 5));
        Check.same("lean", turn * steps[k], yard.floats(0, 2) / yard.floats(0, 5));
        Check.same("list with just " + steps[k], (double) k, yard.floats(0, 6));
      }
    }
  }

  /** Two stations at one end have a breadth of 10 metres: what is flooded there first, and then beside it, sinks it. */
  private static KeelHouse atOneEnd(boolean isStern, int tonnes) {
    KeelHouse yard = new KeelHouse();
    yard.draw(0, 36, 6, 40);
    for (int station = 0; station < 7; station++) {
      boolean isBroad = isStern ? station <= 1 : station >= 5;
      for (int line = 0; line < 5 && !isBroad; line++) {
        yard.offset(0, station, line, 0);
      }
    }
    yard.put(0, tonnes, isStern ? 0 : 5, 0, 0);
    return yard;
  }

  static void section2FloodBesideGoesToTheNextOneAlone() {
    for (int end = 0; end <= 1; end++) {
      int first = end == 0 ? 1 : 32;
      KeelHouse low = atOneEnd(end == 0, 270);
      low.bulkheads(0, 31);
      Check.within("below the brim", 4.9, 5.0, low.flood(0, first, false));
      Check.same("the end alone", (double) first, low.flood(0, first, true));
      KeelHouse high = atOneEnd(end == 0, 308);
      high.bulkheads(0, 31);
      Check.same("beyond it the next one is flooded, too, and it sinks", -1.0, high.flood(0, first, false));
      KeelHouse light = atOneEnd(end == 0, 193);
      light.bulkheads(0, end == 0 ? 30 : 15);
      Check.same("both are flooded, and then all others, which hold nothing", 63.0, light.flood(0, first, true));
      Check.within("it floats", 5.9, 6.0, light.flood(0, first, false));
    }
  }
}
