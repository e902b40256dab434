/** Promises 5 to 8: put, take, fill, bulkheads, floats, flood, survives. */
public final class FloatingTest {
  public static void main(String[] args) {
    items();
    itemsRefuse();
    tanks();
    bulkheads();
    floating();
    lists();
    freeSurfaces();
    withoutDraught();
    engineAndPlatesWeigh();
    flooding();
    overTheBrim();
    surviving();
    goneShips();
    Check.end();
  }

  private static void items() {
    KeelHouse yard = Yards.drawn();
    Check.same("put", 0, yard.put(0, 10, 0, 0, 0));
    Check.same("put", 1, yard.put(0, 20, 5, -64, 160));
    Check.same("put", 2, yard.put(0, 900, 3, 64, 8));
    Check.same("weight", 930.0, yard.floats(0, 0));
    Check.same("take 1", 2, yard.take(0, 1));
    Check.same("weight", 910.0, yard.floats(0, 0));
    Check.near("lcg", (10 * 0.5 + 900 * 3.5) * 40 / 6 / 910, yard.floats(0, 1));
    Check.near("tcg", 900 * 8.0 / 910, yard.floats(0, 2));
    Check.near("kg", 900.0 / 910, yard.floats(0, 3));
    Check.same("take 1, that was 2", 1, yard.take(0, 1));
    Check.same("weight", 10.0, yard.floats(0, 0));
    Check.same("take 0", 0, yard.take(0, 0));
    for (int i = 0; i < 6; i++) {
      Check.same("put", i, yard.put(0, 1, i, 0, 0));
    }
    Check.badState(yard, "a seventh item", () -> yard.put(0, 1, 0, 0, 0));
    Check.badArgument(yard, "a seventh item of 0", () -> yard.put(0, 0, 0, 0, 0));
  }

  private static void itemsRefuse() {
    KeelHouse yard = Yards.drawn();
    Check.noIndex(yard, "put(1, ..)", () -> yard.put(1, 0, 0, 0, 0));
    Check.noIndex(yard, "put into 6", () -> yard.put(0, 0, 6, 0, 0));
    Check.noIndex(yard, "put into -1", () -> yard.put(0, 1, -1, 0, 0));
    int[][] wrong = {{0, 0, 0}, {901, 0, 0}, {1, -65, 0}, {1, 65, 0}, {1, 0, -1}, {1, 0, 161}};
    for (int[] w : wrong) {
      Check.badArgument(yard, "put " + java.util.Arrays.toString(w), () -> yard.put(0, w[0], 0, w[1], w[2]));
    }
    Check.noIndex(yard, "take of none", () -> yard.take(0, 0));
    Check.noIndex(yard, "take -1", () -> yard.take(0, -1));
    Check.noIndex(yard, "take(1, 0)", () -> yard.take(1, 0));
  }

  private static void tanks() {
    KeelHouse yard = Yards.drawn();
    Check.same("fill", 0, yard.fill(0, 8));
    Check.near("a full tank", 50.0, yard.floats(0, 0));
    Check.near("it lies in 0", 20.0 / 6.0, yard.floats(0, 1));
    Check.near("its up", 0.75, yard.floats(0, 3));
    Check.same("fill", 8, yard.fill(0, 400000));
    Check.near("half a tank", 25.0, yard.floats(0, 0));
    Check.near("it lies in 5", 220.0 / 6.0, yard.floats(0, 1));
    Check.near("its up", 0.375, yard.floats(0, 3));
    Check.same("fill", 4, yard.fill(0, 123456));
    Check.same("fill", 21, yard.fill(0, 888888));
    Check.same("fill", 48, yard.fill(0, 0));
    taperedTanks();
    for (int wrong : new int[] {-1, 888889, 900000, 9, 190000, 1000000}) {
      Check.badArgument(yard, "fill " + wrong, () -> yard.fill(0, wrong));
    }
    Check.noIndex(yard, "fill(1, 9)", () -> yard.fill(1, 9));
  }

  private static void taperedTanks() {
    KeelHouse yard = new KeelHouse();
    yard.draw(1, 48, 8, 64);
    int[] halves = {21, 42, 56, 56, 56, 42, 14};
    int fills = 8;
    for (int c = 0; c < 6; c++) {
      yard.fill(0, fills);
      fills *= 10;
      double room = (halves[c] + halves[c + 1]) / 16.0 * 2 * 8;
      Check.near("a tank of " + c, room, yard.floats(0, 0));
      Check.near("where it lies", 4 + 8 * c, yard.floats(0, 1));
    }
    yard.fill(0, 10000);
    double b = (halves[4] + halves[5]) / 8.0;
    Check.near("its free surface", b * b * b * 48 / 72 / yard.floats(0, 0), yard.floats(0, 8));
  }

  private static void bulkheads() {
    KeelHouse yard = new KeelHouse();
    yard.draw(0, 40, 6, 40);
    Check.same("bulkheads", 0, yard.bulkheads(0, 31));
    Check.same("bulkheads", 31, yard.bulkheads(0, 4));
    yard.lay(0, 0);
    Check.same("bulkheads on the slip", 4, yard.bulkheads(0, 0));
    Check.badArgument(yard, "bulkheads 32", () -> yard.bulkheads(0, 32));
    Check.badArgument(yard, "bulkheads -1", () -> yard.bulkheads(0, -1));
    Check.noIndex(yard, "bulkheads(1, 32)", () -> yard.bulkheads(1, 32));
    KeelHouse afloat = Yards.afloat();
    Check.badState(afloat, "bulkheads afloat", () -> afloat.bulkheads(0, 0));
    Check.badArgument(afloat, "bulkheads 32 afloat", () -> afloat.bulkheads(0, 32));
  }

  private static void floating() {
    KeelHouse yard = Yards.drawn();
    yard.put(0, 300, 2, 16, 24);
    yard.put(0, 100, 4, -8, 40);
    Check.same("weight", 400.0, yard.floats(0, 0));
    double lcg = (300 * 2.5 + 100 * 4.5) * 40 / 6 / 400;
    Check.near("lcg", lcg, yard.floats(0, 1));
    Check.near("tcg", (600.0 - 100.0) / 400, yard.floats(0, 2));
    Check.near("kg", (900.0 + 500.0) / 400, yard.floats(0, 3));
    double t = yard.floats(0, 4);
    Check.same("t is held to 20 halvings", 0.0, t * 1048576.0 / 6.0 - (int) (t * 1048576.0 / 6.0));
    Check.same("t is 1.0 from above", true, t >= 1.0 && t < 1.00001);
    double gm = t / 2.0 + 100.0 / 12.0 / t - 3.5;
    Check.near("gm", gm, yard.floats(0, 5));
    Check.same("list", 3.0, yard.floats(0, 6));
    Check.near("trim", (lcg - 20.0) * 40 / (1600.0 / 12.0 / t), yard.floats(0, 7));
    Check.same("free", 0.0, yard.floats(0, 8));
    Check.badArgument(yard, "floats 9", () -> yard.floats(0, 9));
    Check.badArgument(yard, "floats -1", () -> yard.floats(0, -1));
    Check.noIndex(yard, "floats(1, 9)", () -> yard.floats(1, 9));
  }

  /** The list by what tcg / gm is: each step, and just beyond it. */
  private static void lists() {
    double[] steps = {0.02, 0.09, 0.18, 0.27, 0.36, 0.47, 0.58, 0.7, 0.84, 1.0};
    boolean[] seen = new boolean[11];
    for (int up = 0; up <= 160; up += 8) {
      for (int side = -64; side <= 64; side += 2) {
        KeelHouse yard = new KeelHouse();
        yard.draw(0, 40, 6, 40);
        yard.put(0, 800, 2, side, up);
        double gm = yard.floats(0, 5);
        int due = 0;
        while (due < 10 && (gm <= 0.05 || Math.abs(yard.floats(0, 2) / gm) > steps[due])) {
          due++;
        }
        seen[due] = true;
        Check.same("list with " + side + ", " + up, (double) due, yard.floats(0, 6));
      }
    }
    for (int k = 0; k <= 10; k++) {
      Check.same("a list of " + k + " was seen", true, seen[k]);
    }
    listsByAndBy(steps);
  }

  private static void listsByAndBy(double[] steps) {
    for (int tonnes = 1; tonnes <= 900; tonnes++) {
      KeelHouse yard = new KeelHouse();
      yard.draw(0, 40, 6, 40);
      yard.put(0, 800, 2, 0, 20);
      yard.put(0, tonnes, 2, 48, 20);
      double lean = yard.floats(0, 2) / yard.floats(0, 5);
      int due = 0;
      while (due < 10 && lean > steps[due]) {
        due++;
      }
      Check.same("list with a lean of " + lean, (double) due, yard.floats(0, 6));
    }
  }

  private static void freeSurfaces() {
    KeelHouse yard = Yards.drawn();
    yard.put(0, 400, 2, 0, 0);
    yard.fill(0, 800000);
    Check.same("a full tank has no free surface", 0.0, yard.floats(0, 8));
    yard.fill(0, 800001);
    double weight = yard.floats(0, 0);
    double free = 1000.0 * 40 / 72 / weight;
    Check.near("free", free, yard.floats(0, 8));
    double t = yard.floats(0, 4);
    Check.near("gm", t / 2.0 + 100.0 / 12.0 / t - yard.floats(0, 3) - free, yard.floats(0, 5));
    yard.fill(0, 717171);
    Check.near("free of six", 6 * 1000.0 * 40 / 72 / yard.floats(0, 0), yard.floats(0, 8));
  }

  private static void withoutDraught() {
    KeelHouse yard = Yards.drawn();
    yard.put(0, 900, 0, 64, 160);
    Check.same("with one it floats, and has a trim", true, yard.floats(0, 7) < 0.0 && yard.floats(0, 5) != 0.0);
    yard.put(0, 900, 0, 64, 160);
    yard.put(0, 900, 0, 64, 160);
    yard.fill(0, 4);
    double[] due = {2725.0, 20.0 / 6.0, 21600.0 / 2725.0, (54000.0 + 25 * 0.375) / 2725.0, -1.0, 0.0, 10.0, 0.0,
        1000.0 * 40 / 72 / 2725.0};
    for (int what = 0; what < due.length; what++) {
      Check.near("floats(0, " + what + ") without a draught", due[what], yard.floats(0, what));
    }
    Check.same("flood without a draught", -1.0, yard.flood(0, 0, false));
    Check.same("flood's set without a draught", -1.0, yard.flood(0, 1, true));
    Check.same("survives without a draught", 0, yard.survives(0));
    KeelHouse light = Yards.drawn();
    for (int what = 0; what <= 3; what++) {
      Check.same("floats(0, " + what + ") of nothing", 0.0, light.floats(0, what));
    }
    Check.same("t of nothing", 6.0 / 1048576.0, light.floats(0, 4));
    Check.same("free of nothing", 0.0, light.floats(0, 8));
  }

  private static void engineAndPlatesWeigh() {
    KeelHouse yard = Yards.built();
    double plates = 6 * (10.0 + 12.0 + 10.0) * 40 / 6 * 8 * 0.008;
    double engine = 10 * 6.0 + 5.0;
    Check.near("weight of plates and engine", plates + engine, yard.floats(0, 0));
    Check.near("lcg", (plates * 20 + engine * 10) / (plates + engine), yard.floats(0, 1));
    Check.near("kg", (plates * 3 + engine * 1.5) / (plates + engine), yard.floats(0, 3));
    Check.same("tcg is never -0.0", "0.0", Double.toString(yard.floats(0, 2)));
  }

  private static void flooding() {
    KeelHouse yard = Yards.drawn();
    yard.put(0, 900, 2, 0, 0);
    Check.same("nothing holed", 0.0, yard.flood(0, 0, true));
    Check.same("the set of one that lies higher than 1.0", 8.0, Yards.drawn().flood(0, 8, true));
    twelveTimes();
    Check.same("nothing holed, t", yard.floats(0, 4), yard.flood(0, 0, false));
    Check.same("0 holed, bulkheads everywhere", 1.0, yard.flood(0, 1, true));
    double t = yard.flood(0, 1, false);
    Check.same("t is about 900 / 350", true, Math.abs(t - 900.0 / 350) < 1e-4);
    yard.bulkheads(0, 4);
    Check.same("0 holed, a bulkhead behind 2", 7.0, yard.flood(0, 1, true));
    Check.same("4 holed, a bulkhead behind 2", 56.0, yard.flood(0, 16, true));
    Check.same("2 and 3 holed: 900 / 100 is too deep", -1.0, yard.flood(0, 12, false));
    Check.same("2 and 3 holed, the set", -1.0, yard.flood(0, 12, true));
    yard.bulkheads(0, 4 + 8);
    Check.same("3 alone", 8.0, yard.flood(0, 8, true));
    Check.badArgument(yard, "flood -1", () -> yard.flood(0, -1, true));
    Check.badArgument(yard, "flood 64", () -> yard.flood(0, 64, true));
    Check.noIndex(yard, "flood(1, 64)", () -> yard.flood(1, 64, true));
  }

  /** Of 400 on 400 all is flooded: each time t is 1 and 3 / 4 of what it was. */
  private static void twelveTimes() {
    KeelHouse yard = new KeelHouse();
    yard.draw(0, 40, 6, 40);
    yard.put(0, 400, 2, 0, 0);
    double t = 1.0;
    for (int i = 0; i < 12; i++) {
      t = 1.0 + t * 0.75;
    }
    double got = yard.flood(0, 1, false);
    Check.same("flood looks 12 times: " + got + " is about " + t, true, Math.abs(got - t) < 1e-4);
    Check.same("all are flooded", 63.0, yard.flood(0, 32, true));
  }

  /** With the water above 7 / 8 of the depth what is beside is flooded, too, bulkhead or not. */
  private static void overTheBrim() {
    KeelHouse yard = Yards.drawn();
    yard.put(0, 900, 2, 0, 0);
    yard.put(0, 900, 2, 0, 0);
    Check.same("1800 / 350 is below 5.25", 1.0, yard.flood(0, 1, true));
    yard.put(0, 45, 2, 0, 0);
    Check.same("1845 / 350 is above it, and 1845 / 300 sinks", -1.0, yard.flood(0, 1, true));
    KeelHouse tapered = Yards.drawn();
    for (int j = 0; j < 5; j++) {
      tapered.offset(0, 5, j, 2);
      tapered.offset(0, 6, j, 2);
    }
    tapered.bulkheads(0, 16);
    tapered.put(0, 300, 2, 0, 0);
    Check.same("below the brim the bulkhead holds", 31.0, tapered.flood(0, 1, true));
    tapered.put(0, 80, 2, 0, 0);
    Check.same("over it the small end is flooded, too, and it floats", 63.0, tapered.flood(0, 1, true));
    Check.same("over it t is more than 5.25", true, tapered.flood(0, 1, false) > 5.25);
  }

  private static void surviving() {
    KeelHouse yard = Yards.drawn();
    yard.put(0, 700, 2, 0, 0);
    Check.same("survives with all bulkheads", 5, yard.survives(0));
    yard.bulkheads(0, 4);
    Check.same("survives with one in the middle", 4, yard.survives(0));
    yard.bulkheads(0, 0);
    Check.same("survives without", 0, yard.survives(0));
    Check.noIndex(yard, "survives(1)", () -> yard.survives(1));
    Check.noIndex(yard, "survives(-1)", () -> yard.survives(-1));
  }

  private static void goneShips() {
    KeelHouse yard = Yards.lost();
    Check.badState(yard, "put into a lost one", () -> yard.put(0, 1, 0, 0, 0));
    Check.badArgument(yard, "put of 0 into a lost one", () -> yard.put(0, 0, 0, 0, 0));
    Check.badState(yard, "take from a lost one", () -> yard.take(0, 0));
    Check.noIndex(yard, "take 6 from a lost one", () -> yard.take(0, 6));
    Check.badState(yard, "fill of a lost one", () -> yard.fill(0, 0));
    Check.badArgument(yard, "fill 9 of a lost one", () -> yard.fill(0, 9));
  }
}
