/** Promises 1 to 4: a new object, draw, offset, fair, hull, water, draught. */
public final class LinesTest {
  public static void main(String[] args) {
    newYard();
    forms();
    drawRefuses();
    offsets();
    fairing();
    hullRefuses();
    boxInWater();
    waterRefuses();
    draughts();
    Check.end();
  }

  private static void newYard() {
    KeelHouse yard = new KeelHouse();
    int[] due = {0, 7, 44, 0, 0, 0, 0, 0, 0, 0, 0, 0, 0, 0};
    for (int what = 0; what < due.length; what++) {
      Check.same("yard(" + what + ") of a new one", due[what], yard.yard(what));
    }
    Check.same("cash() of a new one", 5000, yard.cash());
    Check.same("isSound() of a new one", true, yard.isSound());
    for (int spot = 0; spot < 6; spot++) {
      Check.same("spot(" + spot + ", 0) of a new one", -1, yard.spot(spot, 0));
    }
    Check.noIndex(yard, "hull(0, 0) without ships", () -> yard.hull(0, 0));
    Check.same("digest() of two new ones", new KeelHouse().digest(), new KeelHouse().digest());
  }

  private static void forms() {
    int[][] along = {{8, 8, 8, 8, 8, 8, 8}, {3, 6, 8, 8, 8, 6, 2}, {1, 4, 7, 8, 6, 3, 0}};
    int[][] up = {{8, 8, 8, 8, 8}, {4, 7, 8, 8, 8}, {1, 4, 6, 8, 8}};
    KeelHouse yard = new KeelHouse();
    for (int form = 0; form < 3; form++) {
      int width = new int[] {16, 41, 80}[form];
      Check.same("draw of form " + form, form, yard.draw(form, 20 + 30 * form, 4 + 4 * form, width));
      Check.same("hull 0", form, yard.hull(form, 0));
      Check.same("hull 1", 20 + 30 * form, yard.hull(form, 1));
      Check.same("hull 2", 4 + 4 * form, yard.hull(form, 2));
      Check.same("hull 3", 0, yard.hull(form, 3));
      for (int k = 0; k < 7; k++) {
        for (int j = 0; j < 5; j++) {
          Check.same("half " + k + ", " + j + " of form " + form, width * along[form][k] * up[form][j] / 64,
              yard.hull(form, 100 + 5 * k + j));
        }
      }
    }
    Check.same("ships", 3, yard.yard(7));
  }

  private static void drawRefuses() {
    KeelHouse yard = new KeelHouse();
    int[][] wrong = {
      {-1, 20, 4, 16}, {3, 20, 4, 16}, {0, 19, 4, 16}, {0, 81, 4, 16}, {0, 20, 3, 16}, {0, 20, 13, 16},
      {0, 20, 4, 15}, {0, 20, 4, 81}};
    for (int[] w : wrong) {
      Check.badArgument(yard, "draw " + java.util.Arrays.toString(w), () -> yard.draw(w[0], w[1], w[2], w[3]));
    }
    yard.draw(0, 20, 4, 16);
    yard.draw(2, 80, 12, 80);
    yard.draw(1, 50, 5, 50);
    Check.badState(yard, "a fourth draw", () -> yard.draw(0, 20, 4, 16));
    Check.badArgument(yard, "a fourth draw of a wrong form", () -> yard.draw(3, 20, 4, 16));
  }

  private static void offsets() {
    KeelHouse yard = Yards.drawn();
    Check.same("offset to 0", 40, yard.offset(0, 6, 4, 0));
    Check.same("offset to 80", 0, yard.offset(0, 6, 4, 80));
    Check.same("hull(0, 134)", 80, yard.hull(0, 134));
    Check.same("offset of the keel", 40, yard.offset(0, 0, 0, 7));
    Check.same("hull(0, 100)", 7, yard.hull(0, 100));
    Check.noIndex(yard, "offset(1, ..)", () -> yard.offset(1, 0, 0, 1));
    Check.noIndex(yard, "offset(-1, ..)", () -> yard.offset(-1, 0, 0, 1));
    Check.noIndex(yard, "offset station 7", () -> yard.offset(0, 7, 0, 99));
    Check.noIndex(yard, "offset station -1", () -> yard.offset(0, -1, 0, 1));
    Check.noIndex(yard, "offset waterline 5", () -> yard.offset(0, 0, 5, 1));
    Check.noIndex(yard, "offset waterline -1", () -> yard.offset(0, 0, -1, 1));
    Check.badArgument(yard, "offset half 81", () -> yard.offset(0, 0, 0, 81));
    Check.badArgument(yard, "offset half -1", () -> yard.offset(0, 0, 0, -1));
    yard.lay(0, 0);
    Check.badState(yard, "offset on the slip", () -> yard.offset(0, 0, 0, 1));
    Check.badArgument(yard, "offset half 81 on the slip", () -> yard.offset(0, 0, 0, 81));
  }

  private static void fairing() {
    KeelHouse yard = new KeelHouse();
    yard.draw(0, 24, 4, 16);
    Check.same("fair of a box", 0, yard.fair(0));
    yard.offset(0, 3, 4, 22);
    Check.same("fair of a half that differs by 6", 0, yard.fair(0));
    yard.offset(0, 3, 4, 23);
    Check.same("fair of a half that differs by 7", 1, yard.fair(0));
    Check.same("that half", 16, yard.hull(0, 119));
    yard.offset(0, 3, 2, 9);
    Check.same("fair of a half that is less by 7", 1, yard.fair(0));
    yard.offset(0, 2, 0, 36);
    Check.same("fair, the next ones by what became", 2, yard.fair(0));
    Check.same("station 1", 26, yard.hull(0, 105));
    Check.same("station 2", 21, yard.hull(0, 110));
    Check.same("station 3", 16, yard.hull(0, 115));
    yard.offset(0, 0, 3, 80);
    yard.offset(0, 6, 3, 80);
    Check.same("fair of the ends' neighbours", 5, yard.fair(0));
    Check.same("an end stays", 80, yard.hull(0, 103));
    Check.noIndex(yard, "fair(1)", () -> yard.fair(1));
    yard.lay(0, 1);
    Check.badState(yard, "fair on the slip", () -> yard.fair(0));
  }

  private static void hullRefuses() {
    KeelHouse yard = Yards.drawn();
    for (int what : new int[] {-1, 4, 99, 135}) {
      Check.badArgument(yard, "hull(0, " + what + ")", () -> yard.hull(0, what));
    }
    Check.noIndex(yard, "hull(1, 4)", () -> yard.hull(1, 4));
    yard.lay(0, 0);
    Check.same("stage on the slip", 1, yard.hull(0, 3));
  }

  private static void boxInWater() {
    KeelHouse yard = new KeelHouse();
    yard.draw(0, 24, 4, 16);
    double[] due = {96.0, 12.0, 0.5, 96.0, 4.0 / 3.0, 48.0, 144.0};
    for (int what = 0; what < due.length; what++) {
      Check.near("water(0, 8, " + what + ")", due[what], yard.water(0, 8, what));
    }
    double[] dry = {0.0, 0.0, 0.0, 96.0, 0.0, 0.0, 96.0};
    for (int what = 0; what < dry.length; what++) {
      Check.near("water(0, 0, " + what + ")", dry[what], yard.water(0, 0, what));
    }
    Check.near("water to the deck", 384.0, yard.water(0, 32, 0));
    wedgeInWater();
    littleWater();
  }

  /** Just the middle station has a breadth: a volume of less than 1, and of less than 0.001. */
  private static void littleWater() {
    KeelHouse yard = new KeelHouse();
    yard.draw(0, 24, 4, 16);
    for (int k = 0; k < 7; k++) {
      for (int j = 0; j < 5; j++) {
        yard.offset(0, k, j, k == 3 ? 1 : 0);
      }
    }
    Check.near("volume", 0.25 / 8 * 4 * 24 / 18, yard.water(0, 1, 0));
    Check.near("middle", 12.0, yard.water(0, 1, 1));
    Check.near("high", 1.0 / 16, yard.water(0, 1, 2));
    Check.same("across is not 0.0", true, yard.water(0, 1, 4) > 0.0);
    for (int j = 0; j < 5; j++) {
      yard.offset(0, 3, j, j == 1 ? 1 : 0);
    }
    Check.same("a volume of less than 0.001", true, yard.water(0, 0, 0) < 0.001);
    yard.offset(0, 3, 1, 0);
    for (int what = 0; what <= 5; what++) {
      Check.same("water(0, 32, " + what + ") of no hull", 0.0, yard.water(0, 32, what));
    }
    Check.same("nothing floats on it", -1.0, yard.draught(0, 1));
  }

  /** Halves of 0, 20, 40, 60, 80: a triangle of 20 by 4 metres all along. */
  private static void wedgeInWater() {
    KeelHouse yard = new KeelHouse();
    yard.draw(0, 24, 4, 16);
    for (int k = 0; k < 7; k++) {
      for (int j = 0; j < 5; j++) {
        yard.offset(0, k, j, 20 * j);
      }
    }
    double[] due = {24 * 5.0 * 2 * 2 / 2, 12.0, (2.5 * 0.5 + 7.5 * 1.5) / 10, 24 * 10.0, 24 * 2 / 3.0 * 125 / 240,
        10.0 * 24 * 24 * 24 / 12 / 240, 24 * 14.0};
    for (int what = 0; what < due.length; what++) {
      Check.near("water(0, 16, " + what + ") of a wedge", due[what], yard.water(0, 16, what));
    }
    Check.near("volume at 1.5", 24 * 7.5 * 1.5 / 2, yard.water(0, 12, 0));
    Check.near("height of its middle at 1.5", (2.5 * 0.5 + 3.125 * 1.25) / 5.625, yard.water(0, 12, 2));
  }

  private static void waterRefuses() {
    KeelHouse yard = new KeelHouse();
    yard.draw(0, 24, 4, 16);
    Check.badArgument(yard, "water above the deck", () -> yard.water(0, 33, 0));
    Check.badArgument(yard, "water below the keel", () -> yard.water(0, -1, 0));
    Check.badArgument(yard, "water 7", () -> yard.water(0, 8, 7));
    Check.badArgument(yard, "water -1", () -> yard.water(0, 8, -1));
    Check.noIndex(yard, "water(1, 33, 7)", () -> yard.water(1, 33, 7));
  }

  private static void draughts() {
    KeelHouse yard = new KeelHouse();
    yard.draw(0, 24, 4, 16);
    Check.same("draught(0, 96)", 1.0, yard.draught(0, 96));
    Check.same("draught(0, 384)", 4.0, yard.draught(0, 384));
    Check.same("draught(0, 385)", -1.0, yard.draught(0, 385));
    Check.same("draught(0, 0)", 4.0 / 1048576.0, yard.draught(0, 0));
    Check.same("draught(0, 99999)", -1.0, yard.draught(0, 99999));
    Check.badArgument(yard, "draught of -1", () -> yard.draught(0, -1));
    Check.badArgument(yard, "draught of 100000", () -> yard.draught(0, 100000));
    Check.noIndex(yard, "draught(1, -1)", () -> yard.draught(1, -1));
  }
}
