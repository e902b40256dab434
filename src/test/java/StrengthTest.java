/** Promises 8 to 11: plan, limit, lighten, strake, test, weakest. */
public final class StrengthTest {
  private static final int[][] SWELL = {{0, 0, 0, 0, 0, 0, 0}, {4, 1, -3, -4, -3, 1, 4}, {-4, -1, 3, 4, 3, -1, -4}};

  public static void main(String[] args) {
    plans();
    limits();
    strakes();
    stillWater();
    waves();
    waterHeld();
    testRefuses();
    moduli();
    weakest();
    lightened();
    lightenedInVain();
    withoutBreadth();
    Check.end();
  }

  private static void plans() {
    KeelHouse yard = Yards.drawn();
    Check.same("plan", 18, yard.plan(0, 5, 0, 40, 7));
    Check.same("plan", 47, yard.plan(0, 5, 1, 2, 3));
    Check.same("the bottom's plan", 1, yard.strake(0, 5, 0));
    Check.same("the sides' plan", 2, yard.strake(0, 5, 1));
    Check.same("the deck's plan", 3, yard.strake(0, 5, 2));
    Check.same("another one's", 6, yard.strake(0, 4, 0));
    int[][] wrong = {{-1, 0, 0}, {41, 0, 0}, {0, -1, 0}, {0, 41, 0}, {0, 0, -1}, {0, 0, 41}};
    for (int[] w : wrong) {
      Check.badArgument(yard, "plan " + java.util.Arrays.toString(w), () -> yard.plan(0, 0, w[0], w[1], w[2]));
    }
    Check.noIndex(yard, "plan(1, ..)", () -> yard.plan(1, 0, 41, 0, 0));
    Check.noIndex(yard, "plan of 6", () -> yard.plan(0, 6, 41, 0, 0));
    Check.noIndex(yard, "plan of -1", () -> yard.plan(0, -1, 1, 1, 1));
    yard.lay(0, 0);
    Check.badState(yard, "plan on the slip", () -> yard.plan(0, 0, 1, 1, 1));
    Check.badArgument(yard, "a wrong plan on the slip", () -> yard.plan(0, 0, 41, 1, 1));
  }

  private static void limits() {
    KeelHouse yard = Yards.lost();
    Check.same("limit", 120, yard.limit(0, 20));
    Check.same("limit", 20, yard.limit(0, 400));
    Check.badArgument(yard, "limit 19", () -> yard.limit(0, 19));
    Check.badArgument(yard, "limit 401", () -> yard.limit(0, 401));
    Check.noIndex(yard, "limit(1, 19)", () -> yard.limit(1, 19));
    Check.same("limit", 400, yard.limit(0, 100));
  }

  private static void strakes() {
    KeelHouse yard = Yards.onSlip();
    yard.cutAll(0, 0);
    for (int what = 0; what <= 5; what++) {
      Check.same("strake(0, 3, " + what + ") as it is cut", what < 3 ? 6 : 0, yard.strake(0, 3, what));
    }
    Yards.buildOn(yard, 0, 19);
    for (int what = 0; what <= 5; what++) {
      Check.same("strake(0, 3, " + what + ") as it is fitted", what < 3 ? 6 : 8, yard.strake(0, 3, what));
    }
    Check.badArgument(yard, "strake 6", () -> yard.strake(0, 0, 6));
    Check.badArgument(yard, "strake -1", () -> yard.strake(0, 0, -1));
    Check.noIndex(yard, "strake of 6", () -> yard.strake(0, 6, 6));
    Check.noIndex(yard, "strake of -1", () -> yard.strake(0, -1, 0));
    Check.noIndex(yard, "strake(1, ..)", () -> yard.strake(1, 0, 6));
  }

  private static void stillWater() {
    KeelHouse yard = Yards.drawn();
    yard.put(0, 300, 2, 0, 0);
    double[] shears = {-50, -100, 150, 100, 50, 0};
    double moment = 0.0;
    double ahead = 0.0;
    for (int c = 0; c < 6; c++) {
      moment += (ahead + shears[c]) / 2 * 40 / 6;
      ahead = shears[c];
      Check.near("shear behind " + c, shears[c], yard.test(0, 0, false, 6 + c));
      Check.near("moment behind " + c, moment, yard.test(0, 0, false, 12 + c));
      Check.same("stress of " + c + " without plates", 9999.0, yard.test(0, 0, false, c));
    }
    Check.same("greatest stress without plates", 9999.0, yard.test(0, 0, false, 18));
    yard.put(0, 900, 2, 0, 0);
    yard.put(0, 900, 2, 0, 0);
    yard.put(0, 900, 2, 0, 0);
    for (int what = 0; what <= 18; what++) {
      Check.same("test(0, 0, false, " + what + ") without a draught", -1.0, yard.test(0, 0, false, what));
    }
  }

  /** What a box that carries some tonnes in the compartment 2 answers in a sea, by plan. */
  private static double[] boxIn(int sea, double t, double tonnes) {
    double[] water = new double[7];
    for (int k = 0; k < 7; k++) {
      water[k] = Math.max(0.0, Math.min(6.0, t + 6.0 * SWELL[sea][k] / 32));
    }
    double plates = 32.0 * 40 / 6 * 6 * 0.008;
    double all = 0.0;
    for (int c = 0; c < 6; c++) {
      all += (water[c] + water[c + 1]) / 2 * 10 * 40 / 6;
    }
    double[] due = new double[19];
    double shear = 0.0;
    double moment = 0.0;
    for (int c = 0; c < 6; c++) {
      double bears = (water[c] + water[c + 1]) / 2 * 10 * 40 / 6 * ((tonnes + 6 * plates) / all);
      double next = shear + plates + (c == 2 ? tonnes : 0.0) - bears;
      double behind = moment + (shear + next) / 2 * 40 / 6;
      due[c] = Math.max(Math.abs(moment), Math.abs(behind)) / 4.32;
      due[6 + c] = next;
      due[12 + c] = behind;
      due[18] = Math.max(due[18], due[c]);
      shear = next;
      moment = behind;
    }
    return due;
  }

  private static void boxTested(KeelHouse yard, double tonnes) {
    double t = yard.draught(0, 0);
    for (int sea = 0; sea < 3; sea++) {
      double weight = tonnes + 6 * 32.0 * 40 / 6 * 6 * 0.008;
      double[] due = boxIn(sea, weight / 400, tonnes);
      for (int what = 0; what <= 18; what++) {
        double got = yard.test(0, sea, true, what);
        boolean isClose = Math.abs(got - due[what]) < 0.1 + t;
        Check.same("test(0, " + sea + ", true, " + what + ") " + got + " is about " + due[what], true, isClose);
      }
    }
  }

  private static void waves() {
    KeelHouse yard = Yards.drawn();
    yard.put(0, 900, 2, 0, 0);
    boxTested(yard, 900);
    Check.near("as it is nothing is fitted", 150.0, Math.abs(yard.test(0, 0, false, 6)));
  }

  /** In a hollow the water would stand below the keel, with a crest above the deck. */
  private static void waterHeld() {
    KeelHouse light = Yards.drawn();
    light.put(0, 100, 2, 0, 0);
    boxTested(light, 100);
    KeelHouse heavy = Yards.drawn();
    heavy.put(0, 900, 2, 0, 0);
    heavy.put(0, 900, 2, 0, 0);
    heavy.put(0, 350, 2, 0, 0);
    boxTested(heavy, 2150);
  }

  private static void testRefuses() {
    KeelHouse yard = Yards.drawn();
    Check.badArgument(yard, "test sea 3", () -> yard.test(0, 3, true, 0));
    Check.badArgument(yard, "test sea -1", () -> yard.test(0, -1, true, 0));
    Check.badArgument(yard, "test 19", () -> yard.test(0, 0, true, 19));
    Check.badArgument(yard, "test -1", () -> yard.test(0, 0, false, -1));
    Check.noIndex(yard, "test(1, 3, ..)", () -> yard.test(1, 3, true, 19));
  }

  /** A deck alone stands at its own height: nothing bears. Without sides, bottom and deck share it. */
  private static void moduli() {
    KeelHouse yard = Yards.drawn();
    yard.put(0, 300, 2, 0, 0);
    double moment = Math.abs(yard.test(0, 0, false, 12));
    for (int c = 0; c < 6; c++) {
      yard.plan(0, c, 6, 0, 6);
    }
    double modulus = (60.0 * 9 + 60.0 * 9) / 3 / 100;
    Check.near("bottom and deck alone", moment / modulus, yard.test(0, 0, true, 0));
    for (int c = 0; c < 6; c++) {
      yard.plan(0, c, 6, 6, 0);
    }
    double n = 72.0 * 3 / 132;
    double i = 60 * n * n + 72 * (3 + (3 - n) * (3 - n));
    Check.near("without a deck", moment / (i / (6 - n) / 100), yard.test(0, 0, true, 0));
    for (int c = 0; c < 6; c++) {
      yard.plan(0, c, 0, 0, 5);
    }
    Check.same("a deck alone", 9999.0, yard.test(0, 0, true, 0));
  }

  private static int weakestOfBox(double tonnes) {
    int weakest = 0;
    double most = 0.0;
    for (int c = 0; c < 6; c++) {
      for (int sea = 0; sea < 3; sea++) {
        double stress = boxIn(sea, (tonnes + 61.44) / 400, tonnes)[c];
        if (stress > most) {
          most = stress;
          weakest = c;
        }
      }
    }
    return weakest;
  }

  private static void weakest() {
    KeelHouse yard = Yards.drawn();
    yard.put(0, 300, 2, 0, 0);
    Check.same("all stand at 9999.0", 0, yard.weakest(0, false));
    Check.same("weakest by plan", weakestOfBox(300), yard.weakest(0, true));
    yard.plan(0, 3, 1, 0, 1);
    Check.same("weakest where the plan is thin", 3, yard.weakest(0, true));
    yard.put(0, 900, 2, 0, 0);
    yard.put(0, 900, 2, 0, 0);
    yard.put(0, 900, 2, 0, 0);
    Check.same("weakest without a draught", -1, yard.weakest(0, false));
    Check.same("weakest by plan without a draught", -1, yard.weakest(0, true));
    Check.noIndex(yard, "weakest(1, true)", () -> yard.weakest(1, true));
  }

  private static double greatest(KeelHouse yard) {
    double most = 0.0;
    for (int sea = 0; sea < 3; sea++) {
      most = Math.max(most, yard.test(0, sea, true, 18));
    }
    return most;
  }

  private static int becameMore(KeelHouse yard) {
    int sum = 0;
    for (int c = 0; c < 6; c++) {
      sum += yard.strake(0, c, 0) - 3 + yard.strake(0, c, 2) - 3;
    }
    return sum;
  }

  private static void lightened() {
    KeelHouse yard = Yards.drawn();
    yard.limit(0, 400);
    Check.same("lighten of an empty one", 0, yard.lighten(0));
    for (int c = 0; c < 6; c++) {
      for (int strake = 0; strake < 3; strake++) {
        Check.same("each plan is 3", 3, yard.strake(0, c, strake));
      }
    }
    yard.put(0, 150, 2, 0, 0);
    yard.put(0, 150, 3, 0, 0);
    yard.limit(0, 220);
    int many = yard.lighten(0);
    Check.same("lighten makes some stronger", true, many > 10);
    Check.same("as many as became more", becameMore(yard), many);
    Check.same("the stress is within the limit", true, greatest(yard) <= 220);
    Check.same("known of such a box", 52, many);
    boolean isSidesMore = false;
    for (int c = 0; c < 6; c++) {
      int apart = yard.strake(0, c, 0) - yard.strake(0, c, 2);
      Check.same("bottom first, then deck: " + apart, true, apart == 0 || apart == 1);
      Check.same("sides follow within 3", true, yard.strake(0, c, 0) - yard.strake(0, c, 1) <= 3);
      isSidesMore |= yard.strake(0, c, 1) > 3;
    }
    Check.same("some sides became more", true, isSidesMore);
    yard.limit(0, 340);
    Check.same("lighten once more", 26, yard.lighten(0));
    Check.same("the bottom first", 8, yard.strake(0, 2, 0));
    Check.same("then the deck", 7, yard.strake(0, 2, 2));
    Check.noIndex(yard, "lighten(1)", () -> yard.lighten(1));
    yard.lay(0, 0);
    Check.badState(yard, "lighten on the slip", () -> yard.lighten(0));
  }

  private static void lightenedInVain() {
    KeelHouse yard = Yards.drawn();
    yard.put(0, 900, 0, 0, 0);
    yard.limit(0, 20);
    Check.same("lighten, 80 times in vain", -2, yard.lighten(0));
    Check.same("80 became more", 80, becameMore(yard));
    KeelHouse heavy = Yards.drawn();
    heavy.put(0, 900, 0, 0, 0);
    heavy.put(0, 900, 0, 0, 0);
    heavy.put(0, 900, 0, 0, 0);
    Check.same("lighten without a draught", -1, heavy.lighten(0));
    Check.same("its plans became 3", 3, heavy.strake(0, 5, 2));
    KeelHouse atLast = Yards.drawn();
    atLast.put(0, 30, 2, 0, 0);
    atLast.put(0, 30, 3, 0, 0);
    atLast.limit(0, 70);
    Check.same("the 80th time is enough", 80, atLast.lighten(0));
    atForty();
  }

  /** A hull whose last compartment bears the most, and the least. */
  private static void atForty() {
    int[] halves = {
      0, 0, 4, 0, 0, 0, 0, 0, 80, 33, 0, 22, 33, 22, 76, 7, 67, 16, 0, 0, 0, 80, 30, 80, 80, 24, 0, 37, 67, 0, 58, 0,
      80, 8, 0};
    KeelHouse yard = new KeelHouse();
    yard.draw(0, 40, 4, 40);
    for (int at = 0; at < 35; at++) {
      yard.offset(0, at / 5, at % 5, halves[at]);
    }
    yard.put(0, 443, 3, 0, 0);
    yard.limit(0, 20);
    Check.same("lighten of that hull", -2, yard.lighten(0));
    Check.same("its bottom is at 40", 40, yard.strake(0, 5, 0));
    Check.same("its sides followed", 37, yard.strake(0, 5, 1));
    Check.same("its deck is at 40", 40, yard.strake(0, 5, 2));
    Check.same("six times nothing became more", 74, becameMore(yard));
  }

  private static void withoutBreadth() {
    KeelHouse atForty = Yards.drawn();
    for (int c = 0; c < 6; c++) {
      for (int k = 0; k < 7; k++) {
        atForty.offset(0, k, 1, 1);
        atForty.offset(0, k, 4, 1);
      }
    }
    atForty.put(0, 200, 2, 0, 0);
    atForty.limit(0, 20);
    Check.same("lighten of a hull without breadth", -2, atForty.lighten(0));
    int most = 0;
    for (int c = 0; c < 6; c++) {
      most = Math.max(most, Math.max(atForty.strake(0, c, 0), atForty.strake(0, c, 1)));
    }
    Check.same("no plan is above 40", true, most <= 40);
  }
}
