import java.util.EnumSet;

/** Section 1, promises 2 to 4, at their bounds. */
public final class Bounds1LinesTest {
  public static void main(String[] args) throws Exception {
    Bounds.run(Bounds1LinesTest.class);
  }

  private static KeelHouse box() {
    KeelHouse yard = new KeelHouse();
    yard.draw(0, 24, 4, 16);
    return yard;
  }

  static void promise2DrawForm0To2() {
    Bounds.argument("draw, form", KeelHouse::new, 0, 2, (yard, form) -> yard.draw(form, 40, 6, 40));
  }

  static void promise2DrawLength20To80() {
    Bounds.argument("draw, length", KeelHouse::new, 20, 80, (yard, length) -> yard.draw(0, length, 6, 40));
  }

  static void promise2DrawDepth4To12() {
    Bounds.argument("draw, depth", KeelHouse::new, 4, 12, (yard, depth) -> yard.draw(0, 40, depth, 40));
  }

  static void promise2DrawHalfWidth16To80() {
    Bounds.argument("draw, halfWidth", KeelHouse::new, 16, 80, (yard, half) -> yard.draw(0, 40, 6, half));
  }

  static void promise2DrawThreeAtMost() {
    KeelHouse yard = new KeelHouse();
    yard.draw(0, 20, 4, 16);
    yard.draw(1, 80, 12, 80);
    Check.same("the third", 2, yard.draw(2, 50, 8, 50));
    Check.badState(yard, "the fourth", () -> yard.draw(0, 20, 4, 16));
  }

  /** The whole product first: 17 * 3 * 4 / 64 is 3, and 17 * (12 / 64) would be 0. */
  static void promise2DrawHalvesOfLeastAndMost() {
    KeelHouse yard = new KeelHouse();
    yard.draw(1, 20, 4, 17);
    Check.same("17 * 3 * 4 / 64", 3, yard.hull(0, 100));
    Check.same("17 * 8 * 8 / 64", 17, yard.hull(0, 112));
    yard.draw(2, 20, 4, 80);
    Check.same("80 * 8 * 8 / 64", 80, yard.hull(1, 119));
    Check.same("80 * 0 * 8 / 64", 0, yard.hull(1, 134));
    Check.same("80 * 1 * 1 / 64", 1, yard.hull(1, 100));
  }

  static void promise2OffsetStation0To6() {
    Bounds.index("offset, station", Bounds1LinesTest::box, 0, 6, (yard, station) -> yard.offset(0, station, 0, 1));
  }

  static void promise2OffsetWaterline0To4() {
    Bounds.index("offset, waterline", Bounds1LinesTest::box, 0, 4, (yard, line) -> yard.offset(0, 0, line, 1));
  }

  static void promise2OffsetHalf0To80() {
    Bounds.argument("offset, half", Bounds1LinesTest::box, 0, 80, (yard, half) -> yard.offset(0, 0, 0, half));
  }

  static void promise2OffsetOnlyDrawn() {
    Bounds.onlyAt("offset", EnumSet.of(Place.DRAWN), yard -> yard.offset(0, 6, 4, 80));
  }

  static void promise3FairDiffersBy6Or7() {
    for (int half : new int[] {16 - 7, 16 - 6, 16 + 6, 16 + 7}) {
      KeelHouse yard = box();
      yard.offset(0, 3, 2, half);
      boolean isFar = Math.abs(half - 16) > 6;
      Check.same("fair with a half of " + half, isFar ? 1 : 0, yard.fair(0));
      Check.same("that half", isFar ? 16 : half, yard.hull(0, 117));
    }
  }

  /** 16 and 17 have the mean 16, so 9 differs by 7 and 10 by 6. */
  static void promise3FairMeanRoundsDown() {
    for (int half : new int[] {9, 10, 22, 23}) {
      KeelHouse yard = box();
      yard.offset(0, 2, 0, 17);
      yard.offset(0, 1, 0, half);
      boolean isFar = half == 9 || half == 23;
      Check.same("fair with a half of " + half, isFar ? 1 : 0, yard.fair(0));
      Check.same("that half", isFar ? 16 : half, yard.hull(0, 105));
    }
  }

  static void promise3FairStations1To5() {
    KeelHouse yard = box();
    for (int station : new int[] {0, 6}) {
      yard.offset(0, station, 4, 30);
    }
    Check.same("fair", 2, yard.fair(0));
    int[] due = {30, 23, 16, 16, 16, 23, 30};
    for (int station = 0; station < 7; station++) {
      Check.same("station " + station, due[station], yard.hull(0, 104 + 5 * station));
    }
  }

  static void promise3FairWaterlines0To4() {
    KeelHouse yard = box();
    for (int line = 0; line < 5; line++) {
      yard.offset(0, 3, line, 30);
    }
    Check.same("fair, two of each", 5 * 2, yard.fair(0));
    for (int line = 0; line < 5; line++) {
      Check.same("station 2 of " + line, 23, yard.hull(0, 110 + line));
      Check.same("station 3 of " + line, 19, yard.hull(0, 115 + line));
      Check.same("station 4 of " + line, 16, yard.hull(0, 120 + line));
    }
  }

  static void promise3FairOnlyDrawn() {
    Bounds.onlyAt("fair", EnumSet.of(Place.DRAWN), yard -> yard.fair(0));
  }

  static void promise3HullWhat() {
    Bounds.argument("hull", Bounds1LinesTest::box, 0, 3, (yard, what) -> yard.hull(0, what));
    Bounds.argument("hull", Bounds1LinesTest::box, 100, 134, (yard, what) -> yard.hull(0, what));
  }

  static void promise3HullHalvesByStationAndWaterline() {
    KeelHouse yard = box();
    for (int at = 0; at < 35; at++) {
      yard.offset(0, at / 5, at % 5, at);
    }
    for (int at = 0; at < 35; at++) {
      Check.same("hull(0, " + (100 + at) + ")", at, yard.hull(0, 100 + at));
    }
  }

  static void promise4WaterDraught0To8TimesDepth() {
    Bounds.argument("water, draught", Bounds1LinesTest::box, 0, 32, (yard, draught) -> yard.water(0, draught, 0));
    Bounds.Maker deep = () -> {
      KeelHouse yard = new KeelHouse();
      yard.draw(0, 80, 12, 80);
      return yard;
    };
    Bounds.argument("water, draught", deep, 0, 96, (yard, draught) -> yard.water(0, draught, 6));
  }

  static void promise4WaterWhat0To6() {
    Bounds.argument("water", Bounds1LinesTest::box, 0, 6, (yard, what) -> yard.water(0, 8, what));
  }

  static void promise4DraughtWeight0To99999() {
    Bounds.argument("draught", Bounds1LinesTest::box, 0, 99999, (yard, weight) -> yard.draught(0, weight));
  }

  /** All of its 24 * 4 * 4 cubic metres: that it bears, not a tonne more. */
  static void promise4DraughtOfAllItsVolume() {
    KeelHouse yard = box();
    Check.same("draught(0, 384)", 4.0, yard.draught(0, 384));
    Check.same("draught(0, 385)", -1.0, yard.draught(0, 385));
    for (int at = 0; at < 35; at++) {
      yard.offset(0, at / 5, at % 5, 0);
    }
    Check.same("no hull bears 0", 4.0 / 1048576.0, yard.draught(0, 0));
    Check.same("no hull bears 1", -1.0, yard.draught(0, 1));
  }

  /** With 20 halvings: a volume that is the weight makes it lie no deeper; one that is less, a step deeper. */
  static void promise4DraughtTwentyTimes() {
    KeelHouse yard = box();
    double step = 4.0 / 1048576.0;
    Check.same("draught(0, 96)", 1.0, yard.draught(0, 96));
    Check.same("draught(0, 192)", 2.0, yard.draught(0, 192));
    double t = yard.draught(0, 97);
    Check.same("it is of whole steps", 0.0, t / step - (int) (t / step));
    Check.same("97 is borne", true, t * 96.0 >= 97.0);
    Check.same("a step higher it is not", true, (t - step) * 96.0 < 97.0);
    Check.same("draught(0, 0)", step, yard.draught(0, 0));
  }

  /** Each waterline has a width of its own; the plane at each, and half way to the next one. */
  static void section1WidesAtWaterlinesAndAtTheDeck() {
    KeelHouse yard = new KeelHouse();
    yard.draw(0, 24, 4, 16);
    int[] halves = {8, 24, 16, 56, 80};
    for (int at = 0; at < 35; at++) {
      yard.offset(0, at / 5, at % 5, halves[at % 5]);
    }
    for (int line = 0; line < 5; line++) {
      Check.near("plane at the waterline " + line, 24 * 2 * halves[line] / 8.0, yard.water(0, 8 * line, 3));
    }
    for (int line = 0; line < 4; line++) {
      double wide = (halves[line] + halves[line + 1]) / 16.0;
      Check.near("plane behind the waterline " + line, 24 * 2 * wide, yard.water(0, 8 * line + 4, 3));
    }
    Check.near("plane an eighth below the deck", 24 * 2 * (56 + 24 * 7 / 8.0) / 8.0, yard.water(0, 31, 3));
  }

  static void section1SectionsAtWaterlinesAndBesideThem() {
    KeelHouse yard = new KeelHouse();
    yard.draw(0, 24, 4, 16);
    int[] halves = {8, 24, 16, 56, 80};
    for (int at = 0; at < 35; at++) {
      yard.offset(0, at / 5, at % 5, halves[at % 5]);
    }
    double area = 0.0;
    double lift = 0.0;
    for (int eighth = 0; eighth < 32; eighth++) {
      Check.near("volume at " + eighth, 24 * area, yard.water(0, eighth, 0));
      int line = eighth / 8;
      double slab = 0.0;
      double from = halves[line] / 8.0;
      double slope = (halves[line + 1] - halves[line]) / 8.0;
      double low = eighth / 8.0 - line;
      double high = low + 0.125;
      slab = (2 * from + slope * (low + high)) * 0.125;
      area += slab;
    }
    Check.near("volume at the deck", 24 * area, yard.water(0, 32, 0));
    for (int line = 0; line < 4; line++) {
      lift += (halves[line] + halves[line + 1]) / 8.0 * (line + 0.5);
    }
    Check.near("high at the deck", lift / area, yard.water(0, 32, 2));
  }

  /** One half of 1 at the stern: with 27 metres a volume of 0.00098, with 28 one of 0.00101. */
  static void section1VolumeBelowAThousandth() {
    for (int length = 27; length <= 28; length++) {
      KeelHouse yard = new KeelHouse();
      yard.draw(0, length, 12, 16);
      for (int at = 0; at < 35; at++) {
        yard.offset(0, at / 5, at % 5, at == 1 ? 1 : 0);
      }
      boolean isThere = length == 28;
      Check.near("volume", length / 18.0 / 1536, yard.water(0, 1, 0));
      Check.same("volume is 0.001 or more", isThere, yard.water(0, 1, 0) >= 0.001);
      for (int what : new int[] {2, 4, 5}) {
        Check.same("water(0, 1, " + what + ") is told with " + length, isThere, yard.water(0, 1, what) > 0.0);
      }
      Check.same("the plane is told with both", true, yard.water(0, 1, 3) > 0.0);
    }
  }

  static void section1MiddleOfNoVolume() {
    KeelHouse yard = box();
    for (int what : new int[] {0, 1, 2, 4, 5}) {
      Check.same("water(0, 0, " + what + ")", 0.0, yard.water(0, 0, what));
      Check.same("water(0, 1, " + what + ") is more", true, yard.water(0, 1, what) > 0.0);
    }
  }

  static void promise2DrawByEachForm() {
    int[][] along = {{8, 8, 8, 8, 8, 8, 8}, {3, 6, 8, 8, 8, 6, 2}, {1, 4, 7, 8, 6, 3, 0}};
    int[][] up = {{8, 8, 8, 8, 8}, {4, 7, 8, 8, 8}, {1, 4, 6, 8, 8}};
    for (int form = 0; form < 3; form++) {
      for (int half : new int[] {16, 63, 80}) {
        KeelHouse yard = new KeelHouse();
        yard.draw(form, 40, 6, half);
        for (int at = 0; at < 35; at++) {
          Check.same("half " + at + " of form " + form, half * along[form][at / 5] * up[form][at % 5] / 64,
              yard.hull(0, 100 + at));
        }
      }
    }
  }
}
