import java.util.EnumSet;

/** Section 3, promises 8 to 11, at their bounds. */
public final class Bounds3StrengthTest {
  public static void main(String[] args) throws Exception {
    Bounds.run(Bounds3StrengthTest.class);
  }

  private static KeelHouse box() {
    return boxOf(40, 6, 40);
  }

  private static KeelHouse boxOf(int length, int depth, int halfWidth) {
    KeelHouse yard = new KeelHouse();
    yard.draw(0, length, depth, halfWidth);
    return yard;
  }

  private static void planAll(KeelHouse yard, int bottom, int sides, int deck) {
    for (int c = 0; c < 6; c++) {
      yard.plan(0, c, bottom, sides, deck);
    }
  }

  static void promise8PlanCompartment0To5() {
    Bounds.index("plan, compartment", Bounds3StrengthTest::box, 0, 5, (yard, c) -> yard.plan(0, c, 1, 1, 1));
  }

  static void promise8PlanBottom0To40() {
    Bounds.argument("plan, bottom", Bounds3StrengthTest::box, 0, 40, (yard, p) -> yard.plan(0, 0, p, 1, 1));
  }

  static void promise8PlanSides0To40() {
    Bounds.argument("plan, sides", Bounds3StrengthTest::box, 0, 40, (yard, p) -> yard.plan(0, 0, 1, p, 1));
  }

  static void promise8PlanDeck0To40() {
    Bounds.argument("plan, deck", Bounds3StrengthTest::box, 0, 40, (yard, p) -> yard.plan(0, 0, 1, 1, p));
  }

  static void promise8PlanOnlyDrawn() {
    Bounds.onlyAt("plan", EnumSet.of(Place.DRAWN), yard -> yard.plan(0, 5, 1, 2, 3));
  }

  static void promise8PlanOf0AndOf40Weigh() {
    KeelHouse yard = box();
    planAll(yard, 0, 0, 0);
    Check.same("nothing by plan: no stress is below 9999.0", 9999.0, yard.test(0, 0, true, 18));
    Check.same("it floats by plan", 0, yard.weakest(0, true));
    planAll(yard, 40, 40, 40);
    Check.same("40 by plan is strong", true, yard.test(0, 0, true, 18) < 1.0);
    double plates = 32.0 * 40 / 6 * 40 * 0.008;
    yard.put(0, 100, 0, 0, 0);
    double bears = (100 + 6 * plates) / 6;
    Check.near("what the compartment 0 carries less what it bears", plates + 100 - bears, yard.test(0, 0, true, 6));
  }

  static void promise9Limit20To400() {
    Bounds.argument("limit", Bounds3StrengthTest::box, 20, 400, (yard, limit) -> yard.limit(0, limit));
    Bounds.argument("limit", Bounds3StrengthTest::sold, 20, 400, (yard, limit) -> yard.limit(0, limit));
  }

  private static KeelHouse sold() {
    return Place.SOLD.yard();
  }

  static void promise9LimitAtAnyPlace() {
    Bounds.onlyAt("limit", EnumSet.allOf(Place.class), yard -> yard.limit(0, 20));
  }

  static void promise9LightenOnlyDrawn() {
    Bounds.onlyAt("lighten", EnumSet.of(Place.DRAWN), yard -> yard.lighten(0));
  }

  /** By plans of 3 the greatest stress of that one is just 225. */
  static void promise9LightenToJustTheLimit() {
    KeelHouse yard = boxOf(20, 4, 48);
    yard.put(0, 216, 2, 0, 0);
    yard.limit(0, 225);
    Check.same("lighten with a limit of 225", 0, yard.lighten(0));
    double most = Math.max(yard.test(0, 0, true, 18), Math.max(yard.test(0, 1, true, 18), yard.test(0, 2, true, 18)));
    Check.same("the greatest stress", 225.0, most);
    yard.limit(0, 224);
    Check.same("lighten with a limit of 224 makes some stronger", true, yard.lighten(0) > 0);
  }

  private static int stronger(KeelHouse yard) {
    int sum = 0;
    for (int c = 0; c < 6; c++) {
      sum += yard.strake(0, c, 0) + yard.strake(0, c, 2) - 6;
    }
    return sum;
  }

  /** With a limit of 70 the 80th time does it; with one of 69 it ends above its limit. */
  static void promise9LightenEightyTimes() {
    KeelHouse yard = Yards.drawn();
    yard.put(0, 30, 2, 0, 0);
    yard.put(0, 30, 3, 0, 0);
    yard.limit(0, 70);
    Check.same("lighten with a limit of 70", 80, yard.lighten(0));
    Check.same("80 became more", 80, stronger(yard));
    yard.limit(0, 69);
    Check.same("lighten with a limit of 69", -2, yard.lighten(0));
    Check.same("80 became more, too", 80, stronger(yard));
    yard.limit(0, 72);
    int many = yard.lighten(0);
    Check.same("lighten with a limit of 72", 78, many);
    Check.same("that many became more", many, stronger(yard));
  }

  /** As the plates grow it gets too heavy: it ends without a draught, and what became more stays so. */
  static void promise9LightenEndsWithoutADraught() {
    KeelHouse yard = box();
    yard.put(0, 900, 0, 0, 0);
    yard.put(0, 900, 5, 0, 0);
    yard.put(0, 550, 0, 0, 0);
    yard.limit(0, 20);
    Check.same("lighten", -1, yard.lighten(0));
    Check.same("some became more", true, stronger(yard) > 0 && stronger(yard) < 80);
    yard.put(0, 900, 0, 0, 0);
    Check.same("lighten of what would sink at once", -1, yard.lighten(0));
    Check.same("its plans are 3", 0, stronger(yard));
  }

  /** The bottom if both are alike, then the deck; the sides follow if they are less by 4 then. */
  static void promise9LightenStepByStep() {
    boolean[] isSeen = new boolean[5];
    for (int limit = 400; limit >= 100; limit--) {
      KeelHouse yard = Yards.drawn();
      yard.put(0, 80, 2, 0, 0);
      yard.put(0, 80, 3, 0, 0);
      yard.limit(0, limit);
      yard.lighten(0);
      for (int c = 0; c < 6; c++) {
        int bottom = yard.strake(0, c, 0);
        int sides = yard.strake(0, c, 1);
        int deck = yard.strake(0, c, 2);
        Check.same("bottom and deck", true, bottom == deck || bottom == deck + 1);
        Check.same("sides beside a bottom of " + bottom, Math.max(3, bottom - 3), sides);
        isSeen[Math.min(bottom - sides, 4)] = true;
      }
    }
    for (int apart = 0; apart <= 3; apart++) {
      Check.same("apart by " + apart, true, isSeen[apart]);
    }
    Check.same("apart by 4", false, isSeen[4]);
  }

  static void promise10StrakeCompartment0To5() {
    Bounds.index("strake, compartment", Bounds3StrengthTest::box, 0, 5, (yard, c) -> yard.strake(0, c, 0));
  }

  static void promise10StrakeWhat0To5() {
    Bounds.argument("strake", Bounds3StrengthTest::box, 0, 5, (yard, what) -> yard.strake(0, 0, what));
  }

  static void promise10TestSea0To2() {
    Bounds.argument("test, sea", Bounds3StrengthTest::box, 0, 2, (yard, sea) -> yard.test(0, sea, true, 18));
  }

  static void promise10TestWhat0To18() {
    Bounds.argument("test", Bounds3StrengthTest::box, 0, 18, (yard, what) -> yard.test(0, 1, false, what));
    KeelHouse yard = Yards.drawn();
    yard.put(0, 300, 2, 0, 0);
    double most = 0.0;
    for (int c = 0; c < 6; c++) {
      most = Math.max(most, yard.test(0, 0, true, c));
      Check.same("the stress of " + c + " is another one than the shear", false,
          yard.test(0, 0, true, c) == yard.test(0, 0, true, 6 + c));
    }
    Check.same("test 18", most, yard.test(0, 0, true, 18));
  }

  /** A test by plan may have no draught where that as it is has one. */
  static void promise10TestWithoutADraught() {
    KeelHouse yard = box();
    yard.put(0, 900, 0, 0, 0);
    yard.put(0, 900, 5, 0, 0);
    yard.put(0, 600, 2, 0, 0);
    Check.same("as it is it floats", true, yard.test(0, 0, false, 18) > 0.0);
    Check.same("weakest as it is", 0, yard.weakest(0, false));
    Check.same("by plan it does not", -1.0, yard.test(0, 0, true, 18));
    Check.same("weakest by plan", -1, yard.weakest(0, true));
  }

  /** Without plates; a bottom alone, a deck alone: no modulus. Of all three strakes 1 millimetre of sides is one. */
  static void section3ModulusOf0() {
    KeelHouse yard = box();
    yard.put(0, 300, 2, 0, 0);
    int[][] none = {{0, 0, 0}, {1, 0, 0}, {40, 0, 0}, {0, 0, 1}, {0, 0, 40}};
    int[][] some = {{0, 1, 0}, {1, 0, 1}, {1, 1, 0}, {0, 1, 1}};
    for (int[] plan : none) {
      planAll(yard, plan[0], plan[1], plan[2]);
      Check.same("stress by " + plan[0] + ", " + plan[1] + ", " + plan[2], 9999.0, yard.test(0, 0, true, 0));
    }
    for (int[] plan : some) {
      planAll(yard, plan[0], plan[1], plan[2]);
      double stress = yard.test(0, 0, true, 0);
      Check.same("stress by " + plan[0] + ", " + plan[1] + ", " + plan[2] + ": " + stress, false, stress == 9999.0);
    }
  }

  /** Where there is no breadth a plan of a bottom and a deck is no area. */
  static void section3AreasOf0Together() {
    KeelHouse yard = box();
    for (int line : new int[] {1, 4}) {
      yard.offset(0, 0, line, 0);
      yard.offset(0, 1, line, 0);
    }
    yard.put(0, 300, 2, 0, 0);
    planAll(yard, 9, 0, 9);
    Check.same("no area", 9999.0, yard.test(0, 0, true, 0));
    Check.same("some area behind", true, yard.test(0, 0, true, 1) < 9999.0);
    yard.offset(0, 0, 1, 1);
    yard.offset(0, 0, 4, 1);
    Check.same("a bit of it", false, yard.test(0, 0, true, 0) == 9999.0);
  }

  private static final int[][] SWELL = {
    {0, 0, 0, 0, 0, 0, 0}, {4, 1, -3, -4, -3, 1, 4}, {-4, -1, 3, 4, 3, -1, -4}};

  private static double[] shears(double t, int sea, int tonnes) {
    double[] water = new double[7];
    double all = 0.0;
    for (int k = 0; k < 7; k++) {
      water[k] = Math.max(0.0, Math.min(8.0, t + SWELL[sea][k] / 4.0));
    }
    for (int c = 0; c < 6; c++) {
      all += (water[c] + water[c + 1]) / 2;
    }
    double[] due = new double[6];
    for (int c = 0; c < 6; c++) {
      double bears = (water[c] + water[c + 1]) / 2 / all * tonnes;
      due[c] = (c > 0 ? due[c - 1] : 0.0) + (c == 2 ? tonnes : 0) - bears;
    }
    return due;
  }

  /** Of 8 metres depth the water stands 1 metre higher and lower: at 1.0 and at 7.0 it is just not held. */
  static void section3WaterIsHeldTo0AndDepth() {
    for (double t : new double[] {0.5, 0.75, 1.0, 1.25, 4.0, 6.75, 7.0, 7.25, 7.5}) {
      KeelHouse yard = boxOf(24, 8, 40);
      int tonnes = (int) (t * 240);
      yard.put(0, Math.min(tonnes, 900), 2, 0, 0);
      if (tonnes > 900) {
        yard.put(0, tonnes - 900, 2, 0, 0);
      }
      Check.same("t", t, yard.floats(0, 4));
      for (int sea = 0; sea <= 2; sea++) {
        double[] due = shears(t, sea, tonnes);
        for (int c = 0; c < 6; c++) {
          Check.within("shear behind " + c + " in " + sea + " at " + t, due[c] - 1e-6, due[c] + 1e-6,
              yard.test(0, sea, false, 6 + c));
        }
      }
    }
  }

  /** What bears it together is 0.00099 of the one: it is taken as it is. Of 0.00100 that is corrected to nothing. */
  static void section3BearsTogetherBelowAThousandth() {
    KeelHouse little = boxOf(26, 7, 23);
    double bears = 26 * 5.75 * 7 / 1048576.0;
    Check.near("all that bears", 0.00099802017, bears);
    Check.within("shear behind 5 is that", -bears - 1e-12, -bears + 1e-12, little.test(0, 0, false, 11));
    Check.within("shear behind 0", -bears / 6 - 1e-12, -bears / 6 + 1e-12, little.test(0, 0, false, 6));
    KeelHouse more = boxOf(35, 6, 20);
    for (int c = 0; c < 6; c++) {
      Check.same("shear behind " + c + " of more", 0.0, more.test(0, 0, false, 6 + c));
    }
  }

  /** Moment ahead of the first and behind the last one is 0.0: each stress goes by the greater one beside it. */
  static void section3StressByTheGreaterMoment() {
    KeelHouse yard = box();
    yard.put(0, 300, 2, 0, 0);
    double plates = 32.0 * 40 / 6 * 6 * 0.008;
    Check.near("plates are alike everywhere", 0.0, yard.test(0, 0, true, 6) + (300 + 6 * plates) / 6 - plates);
    for (int sea = 0; sea < 3; sea++) {
      double ahead = 0.0;
      for (int c = 0; c < 6; c++) {
        double behind = yard.test(0, sea, true, 12 + c);
        Check.near("stress of " + c, Math.max(Math.abs(ahead), Math.abs(behind)) / 4.32, yard.test(0, sea, true, c));
        ahead = behind;
      }
    }
  }

  static void promise11WeakestOfSeveral() {
    KeelHouse yard = box();
    yard.put(0, 300, 2, 0, 0);
    planAll(yard, 0, 0, 0);
    Check.same("all are alike", 0, yard.weakest(0, true));
    for (int c = 5; c >= 0; c--) {
      for (int k = 0; k < c; k++) {
        yard.plan(0, k, 40, 40, 40);
      }
      for (int k = c; k < 6; k++) {
        yard.plan(0, k, 0, 0, 0);
      }
      Check.same("without plates from " + c + " on", c, yard.weakest(0, true));
    }
  }

  /** A bottom half as broad as the deck: where N lies, and which edge is further off. */
  static void section3ModulusOfABottomAndADeckOfTheirOwn() {
    int[][] plans = {{6, 6, 6}, {10, 1, 3}, {1, 2, 40}, {3, 5, 3}};
    for (int[] plan : plans) {
      KeelHouse yard = box();
      for (int station = 0; station < 7; station++) {
        yard.offset(0, station, 1, 20);
      }
      yard.put(0, 300, 2, 0, 0);
      planAll(yard, plan[0], plan[1], plan[2]);
      double p = 5.0 * plan[0];
      double q = 12.0 * plan[1];
      double r = 10.0 * plan[2];
      double n = (q * 3 + r * 6) / (p + q + r);
      double i = p * n * n + r * (6 - n) * (6 - n) + q * (3 + (3 - n) * (3 - n));
      double modulus = i / Math.max(n, 6 - n) / 100;
      Check.near("stress by " + plan[0] + ", " + plan[1] + ", " + plan[2],
          Math.abs(yard.test(0, 0, true, 12)) / modulus, yard.test(0, 0, true, 0));
    }
    KeelHouse even = box();
    even.put(0, 300, 2, 0, 0);
    planAll(even, 3, 5, 3);
    Check.near("bottom and deck together are as large as the sides",
        Math.abs(even.test(0, 0, true, 12)) / ((30 * 9 * 2 + 60 * 3) / 3.0 / 100), even.test(0, 0, true, 0));
  }

  private static KeelHouse uneven(int form, int length, int depth, int halfWidth, int station, int line, int half) {
    KeelHouse yard = new KeelHouse();
    yard.draw(form, length, depth, halfWidth);
    yard.offset(0, station, line, half);
    return yard;
  }

  private static int weakestOf(KeelHouse yard, int first, int last) {
    int weakest = 0;
    double most = -1.0;
    for (int c = 0; c < 6; c++) {
      for (int sea = first; sea <= last; sea++) {
        if (yard.test(0, sea, true, c) > most) {
          most = yard.test(0, sea, true, c);
          weakest = c;
        }
      }
    }
    return weakest;
  }

  /** Of one hull still water makes another compartment the weakest than the waves do, of the other one the crest. */
  static void promise11WeakestOfAnyOfTheThreeSeas() {
    KeelHouse still = uneven(0, 41, 10, 30, 6, 1, 65);
    still.put(0, 143, 4, 0, 0);
    Check.same("by the waves alone", 3, weakestOf(still, 1, 2));
    Check.same("by all", 4, weakestOf(still, 0, 2));
    Check.same("weakest", 4, still.weakest(0, true));
    KeelHouse crest = boxOf(24, 4, 48);
    crest.put(0, 20, 0, 0, 0);
    Check.same("without the crest it is another one", false, weakestOf(crest, 0, 1) == weakestOf(crest, 0, 2));
    Check.same("weakest", weakestOf(crest, 0, 2), crest.weakest(0, true));
    Check.same("weakest", 3, crest.weakest(0, true));
  }

  private static void lightenedBy(int sea, KeelHouse yard, int limit, int due) {
    yard.limit(0, limit);
    Check.same("lighten", due, yard.lighten(0));
    double other = 0.0;
    for (int s = 0; s < 3; s++) {
      other = s == sea ? other : Math.max(other, yard.test(0, s, true, 18));
    }
    double most = yard.test(0, sea, true, 18);
    Check.same("the sea " + sea + " strains it most", true, most > other);
    Check.same("no more than its limit", true, most <= limit);
  }

  static void promise9LightenByEachSea() {
    KeelHouse still = uneven(2, 44, 6, 62, 4, 0, 59);
    still.put(0, 52, 2, 0, 0);
    lightenedBy(0, still, 198, 21);
    KeelHouse hollow = boxOf(24, 4, 48);
    hollow.put(0, 60, 3, 0, 0);
    lightenedBy(1, hollow, 100, 28);
    KeelHouse crest = new KeelHouse();
    crest.draw(2, 24, 4, 48);
    crest.put(0, 20, 1, 0, 0);
    lightenedBy(2, crest, 100, 21);
  }

  /** Both compartments amidships are strained alike: the smaller one comes first, also as the 80 times end. */
  static void promise9LightenTheSmallerCompartmentFirst() {
    KeelHouse yard = box();
    yard.put(0, 100, 2, 0, 0);
    yard.put(0, 100, 3, 0, 0);
    yard.limit(0, 20);
    Check.same("lighten", -2, yard.lighten(0));
    Check.same("bottom and deck of 2", 30, yard.strake(0, 2, 0) + yard.strake(0, 2, 2));
    Check.same("bottom and deck of 3", 29, yard.strake(0, 3, 0) + yard.strake(0, 3, 2));
  }

  /** One end bears nearly all: bottom and deck there come to 40, and five times nothing becomes more. */
  static void promise9LightenUpTo40() {
    int[] halves = {
      0, 0, 4, 0, 0, 0, 0, 0, 80, 33, 0, 22, 33, 22, 76, 7, 67, 16, 0, 0, 0, 80, 30, 80, 80, 24, 0, 37, 67, 0, 58, 0,
      80, 8, 0};
    KeelHouse yard = boxOf(40, 4, 40);
    for (int at = 0; at < 35; at++) {
      yard.offset(0, at / 5, at % 5, halves[at]);
    }
    yard.put(0, 430, 3, 0, 0);
    yard.limit(0, 20);
    Check.same("lighten", -2, yard.lighten(0));
    Check.same("the bottom", 40, yard.strake(0, 5, 0));
    Check.same("the deck", 40, yard.strake(0, 5, 2));
    Check.same("the sides are still less by 3", 37, yard.strake(0, 5, 1));
    Check.same("75 of 80 became more", 75, stronger(yard));
  }

  /** A box whose plates weigh alike everywhere is hardly strained in still water. */
  static void section3StressOfNearlyNothing() {
    KeelHouse yard = box();
    double most = 0.0;
    for (int c = 0; c < 6; c++) {
      most = Math.max(most, yard.test(0, 0, true, c));
    }
    Check.same("the greatest stress", most, yard.test(0, 0, true, 18));
    Check.same("it is less than a thousandth", true, most < 0.001);
  }

  /** Plates of 1 millimetre in the compartment 0 alone. */
  static void promise8PlanOf1Weighs() {
    KeelHouse yard = box();
    planAll(yard, 0, 0, 0);
    yard.plan(0, 0, 1, 1, 1);
    double plates = 32.0 * 40 / 6 * 0.008;
    Check.near("what it carries less what it bears", plates * 5 / 6, yard.test(0, 0, true, 6));
  }

  static void promise9LimitIs120AtFirst() {
    KeelHouse yard = box();
    Check.same("limit", 120, yard.limit(0, 20));
    Check.same("limit", 20, yard.limit(0, 400));
    Check.same("limit", 400, yard.limit(0, 120));
  }

  static void promise8PlanTellsTheSumBefore() {
    KeelHouse yard = box();
    Check.same("6 each", 18, yard.plan(0, 0, 1, 10, 40));
    Check.same("1, 10 and 40", 51, yard.plan(0, 0, 40, 40, 40));
    Check.same("40 each", 120, yard.plan(0, 0, 0, 0, 0));
    Check.same("0 each", 0, yard.plan(0, 0, 6, 6, 6));
    Check.same("another one", 18, yard.plan(0, 5, 0, 0, 0));
  }
}
