/** Promises 15 to 17: lay, launch, shift, spot, lies, launchDay. */
public final class EdgeTest {
  public static void main(String[] args) {
    laying();
    layingRefuses();
    launchRefuses();
    launching();
    launchByTenths();
    launchInVain();
    launchWithoutBerth();
    launchLost();
    shifting();
    shiftInVain();
    shiftRefuses();
    fouling();
    spots();
    fees();
    launchDays();
    Check.end();
  }

  static int tide(int day) {
    int[] a = {0, 6, 10, 12, 10, 6, 0, -6, -10, -12, -10, -6};
    int[] b = {4, 2, -1, -3, -4, -3, -1, 2};
    return 40 + a[day % 12] + b[day % 8];
  }

  private static void laying() {
    KeelHouse yard = new KeelHouse();
    yard.draw(0, 60, 6, 40);
    yard.draw(0, 61, 6, 40);
    yard.draw(0, 80, 6, 40);
    KeelHouse other = Yards.drawn();
    Check.same("the slip 0 is free", 1, other.lay(0, 1));
    Check.badState(yard, "61 on 60", () -> yard.lay(1, 0));
    Check.same("60 on 60", 1, yard.lay(0, 0));
    Check.same("spot", 0, yard.lies(0, 0));
    Check.same("stage", 1, yard.hull(0, 3));
    Check.same("spot(0, 0)", 0, yard.spot(0, 0));
    Check.badState(yard, "on a slip that is not free", () -> yard.lay(1, 0));
    Check.badState(yard, "one that is on a slip already", () -> yard.lay(0, 1));
    Check.same("80 on 90", 0, yard.lay(2, 1));
  }

  private static void layingRefuses() {
    KeelHouse yard = Yards.drawn();
    Check.noIndex(yard, "lay(1, 0)", () -> yard.lay(1, 0));
    Check.noIndex(yard, "lay on 2", () -> yard.lay(0, 2));
    Check.noIndex(yard, "lay on -1", () -> yard.lay(0, -1));
    Check.noIndex(yard, "lay(-1, 0)", () -> yard.lay(-1, 0));
  }

  private static void launchRefuses() {
    KeelHouse yard = Yards.drawn();
    Check.badState(yard, "launch of a drawn one", () -> yard.launch(0));
    Check.noIndex(yard, "launch(1)", () -> yard.launch(1));
    KeelHouse slip = Yards.onSlip();
    Check.badState(slip, "launch without any job done", () -> slip.launch(0));
    slip.cutAll(0, 0);
    slip.teams(1, 0);
    for (int i = 0; i < 80; i++) {
      slip.pass(1);
    }
    Check.same("jobs but 19 to 23 are left", 1, slip.job(0, 19, 2) + slip.job(0, 1, 2));
    Check.badState(slip, "launch without job 19", () -> slip.launch(0));
    KeelHouse afloat = Yards.afloat();
    Check.badState(afloat, "launch of one that is afloat", () -> afloat.launch(0));
    launchWithoutOneJob();
  }

  private static void launchWithoutOneJob() {
    KeelHouse keel = Yards.withoutStrakes();
    keel.teams(1, 6);
    keel.pass(20);
    Check.same("the keel alone is not done", 0x1ffffe | 1 << 21, keel.works(0, 1));
    Check.badState(keel, "launch without the keel", () -> keel.launch(0));
    KeelHouse engine = Yards.withoutStrakes();
    engine.teams(0, 6);
    engine.teams(1, 6);
    engine.pass(6);
    Yards.calm(engine, 0);
    Check.same("the engine is not done", 0xfffff, engine.works(0, 1));
    Check.same("launch without the engine", 3, engine.launch(0));
    for (int job = 1; job <= 18; job += 17) {
      KeelHouse yard = Yards.drawn();
      int left = job;
      for (int c = 0; c < 6; c++) {
        yard.plan(0, c, left == 1 && c == 5 ? 6 : 0, 0, left == 18 && c == 5 ? 6 : 0);
      }
      yard.lay(0, 0);
      yard.teams(0, 6);
      yard.teams(1, 6);
      yard.pass(30);
      Check.badState(yard, "launch without a strake", () -> yard.launch(0));
    }
  }

  /** By the tide of each day that is calm: a ship that needs just that, and one that needs a tenth more. */
  private static void launchByTenths() {
    boolean isSeen = false;
    for (int wait = 0; wait < 24; wait++) {
      KeelHouse yard = Yards.built();
      yard.pass(wait + 1);
      int tide = yard.yard(2);
      int weight = (tide - 10 - 3) * 40 - 20 - (int) yard.floats(0, 0);
      if (yard.yard(1) >= 13 || weight < 1 || weight > 1700) {
        continue;
      }
      isSeen = true;
      yard.put(0, weight - weight / 2, 2, 0, 0);
      yard.put(0, weight / 2 + 1, 3, 0, 0);
      Check.same("its need", tide - 10, yard.lies(0, 2));
      yard.put(0, 40, 2, 0, 0);
      Check.same("launch with a tenth too little", -1, yard.launch(0));
      yard.take(0, 2);
      Check.same("launch with just enough", 3, yard.launch(0));
    }
    Check.same("some day was calm", true, isSeen);
  }

  private static void launching() {
    KeelHouse yard = Yards.built();
    while (yard.yard(1) >= 13 || yard.yard(2) < 20) {
      yard.pass(1);
    }
    Check.same("launch", 3, yard.launch(0));
    Check.same("stage", 2, yard.hull(0, 3));
    Check.same("spot", 3, yard.lies(0, 0));
    Check.same("spot(0, 0)", -1, yard.spot(0, 0));
    Check.same("spot(3, 0)", 0, yard.spot(3, 0));
    Check.same("foul", 0, yard.lies(0, 1));
    Check.same("need", (int) Math.ceil(10 * yard.floats(0, 4)) + 3, yard.lies(0, 2));
  }

  private static void launchInVain() {
    KeelHouse yard = Yards.built();
    while (yard.yard(1) < 13) {
      yard.pass(1);
    }
    long before = yard.digest();
    Check.same("launch in a storm", -1, yard.launch(0));
    Check.same("nothing is done", before, yard.digest());
    while (yard.yard(1) >= 13) {
      yard.pass(1);
    }
    for (int i = 0; i < 3; i++) {
      yard.put(0, 900, 2, 0, 0);
    }
    Check.same("launch without a draught", -1, yard.launch(0));
    yard.take(0, 0);
    yard.take(0, 0);
    yard.put(0, 500, 2, 0, 0);
    int need = yard.lies(0, 2);
    boolean isSeen = false;
    for (int i = 0; i < 40 && yard.hull(0, 3) == 1; i++) {
      boolean isHigh = tide(yard.yard(0)) - 10 >= need && yard.yard(1) < 13;
      isSeen |= tide(yard.yard(0)) - 10 == need - 1;
      int got = yard.launch(0);
      Check.same("launch with the tide " + yard.yard(2) + " for " + need, isHigh, got != -1);
      yard.pass(1);
    }
    Check.same("it was launched at last", true, yard.hull(0, 3) == 2);
  }

  private static void launchWithoutBerth() {
    KeelHouse yard = new KeelHouse();
    yard.draw(0, 80, 6, 40);
    yard.lay(0, 1);
    yard.sheets(40, 120, 8, 1, 1);
    yard.order(0, 300);
    for (int trade = 0; trade < 3; trade++) {
      yard.teams(trade, 6);
    }
    yard.pass(1);
    yard.cutAll(0, 0);
    Yards.buildOn(yard, 0, 19);
    yard.put(0, 900, 2, 0, 0);
    int need = yard.lies(0, 2);
    boolean isSeen = false;
    for (int i = 0; i < 40 && yard.hull(0, 3) == 1; i++) {
      int over = tide(yard.yard(0)) - need;
      int due = yard.yard(1) >= 13 || over < 0 ? -1 : over < 25 ? -2 : 5;
      long before = yard.digest();
      int got = yard.launch(0);
      Check.same("launch into the berth 5, " + over + " over its need", due, got);
      Check.same("nothing is done", got < 0, before == yard.digest());
      isSeen |= got == -2;
      yard.pass(1);
    }
    Check.same("no berth was deep enough", true, isSeen);
    Check.same("it was launched at last", 5, yard.lies(0, 0));
  }

  private static void launchLost() {
    KeelHouse yard = Yards.built();
    yard.put(0, 400, 2, 0, 160);
    Check.same("list", 10.0, yard.floats(0, 6));
    int got = -1;
    for (int i = 0; i < 40 && got == -1; i++) {
      yard.pass(1);
      got = yard.launch(0);
    }
    Check.same("launch of one that capsizes", -3, got);
    Check.same("tell", "0 lost", yard.tell(0));
    Check.same("it is at no spot", -1, yard.lies(0, 0));
    Check.same("nor is any spot its", -1, yard.spot(0, 0));
    Check.badState(yard, "launch of a lost one", () -> yard.launch(0));
  }

  private static void shifting() {
    KeelHouse yard = Yards.afloat();
    Yards.calm(yard, 45);
    Check.same("shift", 0, yard.shift(0, 5));
    Check.same("spot", 5, yard.lies(0, 0));
    Check.same("spot(3, 0)", -1, yard.spot(3, 0));
    Check.same("spot(5, 0)", 0, yard.spot(5, 0));
    while (yard.lies(0, 1) < 3) {
      yard.pass(1);
    }
    Yards.calm(yard, 45);
    int foul = yard.lies(0, 1);
    Check.same("shift to a berth", foul, yard.shift(0, 4));
    Check.same("foul stays", foul, yard.lies(0, 1));
    Yards.calm(yard, 45);
    Check.same("shift into the dock", foul, yard.shift(0, 2));
    Check.same("foul in the dock", 0, yard.lies(0, 1));
    Check.same("tell", "0 afloat at 2", yard.tell(0));
  }

  private static void shiftInVain() {
    KeelHouse yard = Yards.afloat();
    while (yard.yard(1) < 13) {
      yard.pass(1);
    }
    long before = yard.digest();
    Check.same("shift in a storm", -1, yard.shift(0, 4));
    Check.same("nothing is done", before, yard.digest());
    boolean[] isSeen = new boolean[4];
    for (int i = 0; i < 40; i++) {
      yard.pass(1);
      boolean isOpen = tide(yard.yard(0)) >= 45 && yard.yard(1) < 13;
      int spot = yard.lies(0, 0) == 2 ? 3 : 2;
      isSeen[(isOpen ? 1 : 0) + (spot == 2 ? 2 : 0)] = true;
      Check.same("shift to " + spot + " with the tide " + yard.yard(2), isOpen, yard.shift(0, spot) >= 0);
    }
    for (boolean seen : isSeen) {
      Check.same("the gate was open and shut, both ways", true, seen);
    }
    deepShips();
    KeelHouse heavy = Yards.afloat();
    for (int i = 0; i < 3; i++) {
      heavy.put(0, 900, 2, 0, 0);
    }
    Yards.calm(heavy, 45);
    Check.same("shift without a draught", -1, heavy.shift(0, 4));
    Check.same("its need", -1, heavy.lies(0, 2));
  }

  /** The tide must do for it where it is, and where it goes. */
  private static void deepShips() {
    KeelHouse yard = Yards.afloat();
    yard.put(0, 800, 2, 0, 0);
    int need = yard.lies(0, 2);
    int[] deeps = {10, 0, 25, 5, 15, 25};
    boolean isHere = false;
    boolean isThere = false;
    for (int i = 0; i < 60; i++) {
      yard.pass(1);
      int from = yard.lies(0, 0);
      int to = from == 3 ? 5 : 3;
      boolean isCalm = yard.yard(1) < 13;
      boolean isEnoughHere = tide(yard.yard(0)) - deeps[from] >= need;
      boolean isEnoughThere = tide(yard.yard(0)) - deeps[to] >= need;
      isHere |= isCalm && isEnoughHere && !isEnoughThere;
      isThere |= isCalm && !isEnoughHere && isEnoughThere;
      Check.same("shift of a deep one from " + from + " to " + to, isCalm && isEnoughHere && isEnoughThere,
          yard.shift(0, to) >= 0);
    }
    Check.same("the tide was not enough where it went", true, isHere);
    Check.same("the tide was not enough where it was", true, isThere);
  }

  private static void shiftRefuses() {
    KeelHouse yard = Yards.afloat();
    Check.noIndex(yard, "shift(1, 3)", () -> yard.shift(1, 3));
    Check.noIndex(yard, "shift to 1", () -> yard.shift(0, 1));
    Check.noIndex(yard, "shift to 6", () -> yard.shift(0, 6));
    Check.badState(yard, "shift to where it is", () -> yard.shift(0, 3));
    KeelHouse slip = Yards.onSlip();
    Check.badState(slip, "shift on the slip", () -> slip.shift(0, 3));
    KeelHouse lost = Yards.lost();
    Check.badState(lost, "shift of a lost one", () -> lost.shift(0, 3));
    KeelHouse longer = new KeelHouse();
    longer.draw(0, 60, 6, 40);
    longer.power(0, 10);
    longer.lay(0, 0);
    Yards.supply(longer);
    longer.pass(1);
    longer.order(0, 300);
    longer.pass(1);
    longer.cutAll(0, 0);
    Yards.buildOn(longer, 0, 19);
    Yards.launch(longer, 0);
    Check.same("60 lies at the berth of 70", 4, longer.lies(0, 0));
    Check.badState(longer, "shift of 60 to 50", () -> longer.shift(0, 3));
  }

  private static void fouling() {
    KeelHouse yard = Yards.afloat();
    int day = yard.yard(0);
    int due = 0;
    for (int i = 0; i < 35; i++) {
      yard.pass(1);
      day++;
      due += day % 10 == 0 ? 1 : 0;
      Check.same("foul on " + day, due, yard.lies(0, 1));
    }
    Yards.calm(yard, 45);
    yard.shift(0, 2);
    yard.pass(30);
    Check.same("foul in the dock", 0, yard.lies(0, 1));
    KeelHouse slip = Yards.onSlip();
    slip.pass(30);
    Check.same("foul on the slip", 0, slip.lies(0, 1));
  }

  private static void spots() {
    KeelHouse yard = new KeelHouse();
    int[] rooms = {60, 90, 70, 50, 70, 90};
    int[] deeps = {10, 0, 25, 5, 15, 25};
    for (int day = 0; day < 50; day++) {
      Check.same("tide of " + day, tide(day), yard.yard(2));
      for (int spot = 0; spot < 6; spot++) {
        Check.same("room", rooms[spot], yard.spot(spot, 1));
        Check.same("deep", deeps[spot], yard.spot(spot, 2));
        Check.same("tide less deep", tide(day) - deeps[spot], yard.spot(spot, 3));
      }
      yard.pass(1);
    }
    Check.noIndex(yard, "spot(6, 4)", () -> yard.spot(6, 4));
    Check.noIndex(yard, "spot(-1, 0)", () -> yard.spot(-1, 0));
    Check.badArgument(yard, "spot(0, 4)", () -> yard.spot(0, 4));
    Check.badArgument(yard, "spot(0, -1)", () -> yard.spot(0, -1));
    yard.draw(0, 40, 6, 40);
    Check.same("lies(0, 0) of a drawn one", -1, yard.lies(0, 0));
    Check.same("lies(0, 2) of an empty one", 4, yard.lies(0, 2));
    Check.badArgument(yard, "lies(0, 3)", () -> yard.lies(0, 3));
    Check.badArgument(yard, "lies(0, -1)", () -> yard.lies(0, -1));
    Check.noIndex(yard, "lies(1, 3)", () -> yard.lies(1, 3));
  }

  private static void fees() {
    KeelHouse yard = Yards.drawn();
    yard.pass(1);
    Check.same("a drawn one costs nothing", 5000, yard.cash());
    yard.lay(0, 1);
    yard.pass(5);
    Check.same("a slip costs 2", -10, yard.money(2, 0, 0));
    Check.same("cash", 4990, yard.cash());
    KeelHouse afloat = Yards.afloat();
    Yards.calm(afloat, 45);
    int before = afloat.money(2, 0, 14);
    afloat.shift(0, 2);
    afloat.pass(3);
    Check.same("the dock costs 9", before - 27, afloat.money(2, 0, 14));
    Yards.calm(afloat, 45);
    afloat.shift(0, 5);
    before = afloat.money(2, 0, 14);
    afloat.pass(3);
    Check.same("a berth costs 2", before - 6, afloat.money(2, 0, 14));
  }

  private static void launchDays() {
    KeelHouse yard = Yards.onSlip();
    yard.put(0, 900, 2, 0, 0);
    yard.put(0, 500, 2, 0, 0);
    for (int i = 0; i < 13; i++) {
      int need = yard.lies(0, 2);
      int weather = yard.yard(1);
      int due = -1;
      for (int d = yard.yard(0); d <= yard.yard(0) + 60 && due == -1; d++) {
        due = weather < 13 && tide(d) - 10 >= need ? d : -1;
        weather = (5 * weather + 3) % 16;
      }
      Check.same("launchDay with " + need, due, yard.launchDay(0));
      Check.same("there is one", true, due >= 0);
      yard.pass(1);
    }
    Check.same("the need of 1400 on 400: a bit above 3.5", 39, yard.lies(0, 2));
    for (int i = 0; i < 4; i++) {
      yard.put(0, 150, 2, 0, 0);
    }
    Check.same("launchDay of one that is too deep on each day", -1, yard.launchDay(0));
    yard.take(0, 0);
    yard.put(0, 900, 2, 0, 0);
    yard.take(0, 0);
    yard.put(0, 900, 2, 0, 0);
    Check.same("launchDay without a draught", -1, yard.launchDay(0));
    Check.noIndex(yard, "launchDay(1)", () -> yard.launchDay(1));
    KeelHouse drawn = Yards.drawn();
    Check.badState(drawn, "launchDay of a drawn one", () -> drawn.launchDay(0));
    KeelHouse afloat = Yards.afloat();
    Check.badState(afloat, "launchDay of one afloat", () -> afloat.launchDay(0));
  }
}
