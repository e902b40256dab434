/** Promises 28 to 32: port, lot, bunker, stow, unload, sail, voyage, ofLot, route. */
public final class VoyagesTest {
  public static void main(String[] args) {
    ports();
    lots();
    bunkers();
    sailing();
    sailRefuses();
    sailInVain();
    withoutFuel();
    noMiles();
    almostThere();
    stowing();
    fire();
    stowRefuses();
    unloading();
    grain();
    lostByList();
    lostByGrain();
    holed();
    holedByHollow();
    sunk();
    soldWithLots();
    returning();
    intoTheDock();
    routes();
    routesRefuse();
    Check.end();
  }

  /** A ready ship of Yards with three ports: one 200 miles off, one 100 behind it, one shallow. */
  private static KeelHouse withPorts() {
    KeelHouse yard = Yards.ready();
    yard.limit(0, 400);
    yard.port(20, 20, 100);
    yard.port(40, 20, 100);
    yard.port(5, 5, 20);
    return yard;
  }

  private static void sailTo(KeelHouse yard, int port) {
    yard.bunker(0, Math.min(400 - yard.voyage(0, 2), 400));
    int got = yard.sail(0, port);
    Check.same("sail to " + port + " answers no less than 0", true, got >= 0);
    for (int i = 0; i < 40 && yard.voyage(0, 0) == 1; i++) {
      yard.pass(1);
    }
  }

  private static void ports() {
    KeelHouse yard = new KeelHouse();
    Check.same("port", 0, yard.port(0, 0, 20));
    Check.same("port", 1, yard.port(99, 99, 200));
    int[][] wrong = {{-1, 0, 20}, {100, 0, 20}, {0, -1, 20}, {0, 100, 20}, {0, 0, 19}, {0, 0, 201}};
    for (int[] w : wrong) {
      Check.badArgument(yard, "port " + java.util.Arrays.toString(w), () -> yard.port(w[0], w[1], w[2]));
    }
    for (int i = 2; i < 6; i++) {
      Check.same("port", i, yard.port(i, i, 30));
    }
    Check.badState(yard, "a seventh port", () -> yard.port(0, 0, 20));
    Check.badArgument(yard, "a seventh port of 19", () -> yard.port(0, 0, 19));
  }

  private static void lots() {
    KeelHouse yard = new KeelHouse();
    Check.noIndex(yard, "lot without ports", () -> yard.lot(0, 0, 0, 3, 0));
    yard.port(10, 0, 20);
    yard.port(10, 10, 20);
    Check.same("lot", 0, yard.lot(0, 1, 1, 0, 1));
    Check.same("lot", 1, yard.lot(1, 0, 400, 2, 999));
    int[] due = {0, -1, -1, 0};
    for (int what = 0; what <= 3; what++) {
      Check.same("ofLot(0, " + what + ")", due[what], yard.ofLot(0, what));
    }
    Check.noIndex(yard, "lot at 2", () -> yard.lot(2, 2, 0, 0, 0));
    Check.noIndex(yard, "lot at -1", () -> yard.lot(-1, 0, 1, 0, 1));
    Check.noIndex(yard, "lot for 2", () -> yard.lot(0, 2, 0, 0, 0));
    Check.noIndex(yard, "lot for -1", () -> yard.lot(0, -1, 1, 0, 1));
    int[][] wrong = {{0, 0, 1, 0, 1}, {0, 1, 0, 0, 1}, {0, 1, 401, 0, 1}, {0, 1, 1, -1, 1}, {0, 1, 1, 3, 1},
      {0, 1, 1, 0, 0}, {0, 1, 1, 0, 1000}};
    for (int[] w : wrong) {
      Check.badArgument(yard, "lot " + java.util.Arrays.toString(w), () -> yard.lot(w[0], w[1], w[2], w[3], w[4]));
    }
    for (int i = 2; i < 8; i++) {
      Check.same("lot", i, yard.lot(0, 1, 10, 1, 10));
    }
    Check.badState(yard, "a ninth lot", () -> yard.lot(0, 1, 10, 1, 10));
    Check.badArgument(yard, "a ninth lot of 0", () -> yard.lot(0, 1, 0, 1, 10));
    Check.noIndex(yard, "ofLot(8, 4)", () -> yard.ofLot(8, 4));
    Check.noIndex(yard, "ofLot(-1, 0)", () -> yard.ofLot(-1, 0));
    Check.badArgument(yard, "ofLot(0, 4)", () -> yard.ofLot(0, 4));
    Check.badArgument(yard, "ofLot(0, -1)", () -> yard.ofLot(0, -1));
  }

  private static void bunkers() {
    KeelHouse yard = withPorts();
    Check.same("bunker", 1, yard.bunker(0, 1));
    Check.same("bunker", 400, yard.bunker(0, 399));
    Check.same("2 for each", -800, yard.money(5, 0, 14));
    Check.same("it weighs nothing", 146.92000000000002, yard.floats(0, 0));
    Check.badState(yard, "bunker of 1 more", () -> yard.bunker(0, 1));
    Check.badArgument(yard, "bunker of 0", () -> yard.bunker(0, 0));
    Check.badArgument(yard, "bunker of 401", () -> yard.bunker(0, 401));
    Check.noIndex(yard, "bunker(1, 0)", () -> yard.bunker(1, 0));
    yard.sail(0, 0);
    yard.pass(1);
    Check.badState(yard, "bunker at sea", () -> yard.bunker(0, 1));
    Check.badArgument(yard, "bunker of 0 at sea", () -> yard.bunker(0, 0));
    yard.pass(1);
    Check.same("at a port", 2, yard.voyage(0, 0));
    Check.same("bunker at a port", 370, yard.bunker(0, 10));
    KeelHouse afloat = Yards.afloat();
    Check.badState(afloat, "bunker of one that is not ready", () -> afloat.bunker(0, 1));
  }

  private static void sailing() {
    KeelHouse yard = withPorts();
    yard.bunker(0, 100);
    double miles = yard.speed(0, -1) * 24.0;
    int[] due = {0, -1, 100, 0, 0, 0, 0, 0, 0};
    for (int what = 0; what <= 8; what++) {
      Check.same("voyage(0, " + what + ") in the yard", due[what], yard.voyage(0, what));
    }
    Check.same("sail", 200, yard.sail(0, 0));
    Check.same("tell", "0 ready at sea", yard.tell(0));
    Check.same("its berth is free", -1, yard.spot(3, 0));
    Check.same("it is at no spot", -1, yard.lies(0, 0));
    Check.same("it is out on a voyage", 1, yard.voyage(0, 0));
    Check.same("for the port 0", 0, yard.voyage(0, 1));
    Check.same("miles left", 200, yard.voyage(0, 3));
    yard.pass(1);
    Check.same("miles left, up to a whole number", (int) Math.ceil(200 - miles), yard.voyage(0, 3));
    Check.same("fuel", 80, yard.voyage(0, 2));
    Check.same("days at sea", 1, yard.voyage(0, 8));
    yard.pass(1);
    Check.same("tell", "0 ready at port 0", yard.tell(0));
    int[] there = {2, 0, 60, 0, 0, 0, 0, 0, 2};
    for (int what = 0; what <= 8; what++) {
      Check.same("voyage(0, " + what + ") at the port", there[what], yard.voyage(0, what));
    }
    yard.pass(3);
    Check.same("fuel stays at a port", 60, yard.voyage(0, 2));
    Check.same("days at sea stay", 2, yard.voyage(0, 8));
    Check.same("from port to port", 100, yard.sail(0, 1));
    while (yard.voyage(0, 0) == 1) {
      yard.pass(1);
    }
    Check.same("home", 300, yard.sail(0, -1));
    while (yard.voyage(0, 0) == 1) {
      Check.same("to the yard", -1, yard.voyage(0, 1));
      yard.pass(1);
    }
    Check.same("tell", "0 ready at 3", yard.tell(0));
    Check.same("in the yard", 0, yard.voyage(0, 0));
    Check.badArgument(yard, "voyage(0, 9)", () -> yard.voyage(0, 9));
    Check.badArgument(yard, "voyage(0, -1)", () -> yard.voyage(0, -1));
    Check.noIndex(yard, "voyage(1, 9)", () -> yard.voyage(1, 9));
  }

  private static void sailRefuses() {
    KeelHouse yard = withPorts();
    Check.noIndex(yard, "sail(1, -1)", () -> yard.sail(1, -1));
    Check.noIndex(yard, "sail to 3", () -> yard.sail(0, 3));
    Check.noIndex(yard, "sail to -2", () -> yard.sail(0, -2));
    Check.badArgument(yard, "sail to the yard in the yard", () -> yard.sail(0, -1));
    yard.sail(0, 0);
    Check.badState(yard, "sail at sea", () -> yard.sail(0, 1));
    Check.badState(yard, "sail at sea to where it goes", () -> yard.sail(0, 0));
    Check.badState(yard, "sail at sea to the yard", () -> yard.sail(0, -1));
    Check.badState(yard, "shift at sea", () -> yard.shift(0, 3));
    while (yard.voyage(0, 0) == 1) {
      yard.pass(1);
    }
    Check.badArgument(yard, "sail to where it lies", () -> yard.sail(0, 0));
    Check.badState(yard, "shift at a port", () -> yard.shift(0, 3));
    KeelHouse drawn = Yards.drawn();
    drawn.port(1, 1, 30);
    Check.badArgument(drawn, "sail of a drawn one to the yard", () -> drawn.sail(0, -1));
    Check.badState(drawn, "sail of a drawn one", () -> drawn.sail(0, 0));
    KeelHouse afloat = Yards.afloat();
    afloat.port(1, 1, 30);
    Check.badState(afloat, "sail of one that is not ready", () -> afloat.sail(0, 0));
    KeelHouse lost = Yards.lost();
    lost.port(1, 1, 30);
    Check.badArgument(lost, "sail of a lost one to the yard", () -> lost.sail(0, -1));
    Check.badState(lost, "sail of a lost one", () -> lost.sail(0, 0));
  }

  private static void sailInVain() {
    KeelHouse yard = withPorts();
    yard.put(0, 900, 2, 0, 0);
    yard.put(0, 600, 3, 0, 0);
    int need = yard.lies(0, 2);
    Check.same("its need", true, need > 20 && need <= 100);
    Check.same("sail where it is too shallow", -1, yard.sail(0, 2));
    yard.net(0, 1);
    yard.valve(0, 0);
    yard.valve(0, 2);
    Check.same("without gives, ahead of -1", -2, yard.sail(0, 2));
    Check.same("without gives", -2, yard.sail(0, 0));
    yard.put(0, 300, 2, 0, 160);
    yard.put(0, 300, 2, 0, 160);
    Check.same("it floats", true, yard.floats(0, 4) > 0);
    Check.same("with a list of 10, ahead of -2", -3, yard.sail(0, 2));
    yard.put(0, 900, 2, 0, 0);
    Check.same("without a draught", -3, yard.sail(0, 0));
    Check.same("nothing was done", "0 ready at 3", yard.tell(0));
    Check.same("the yard's place in all that", 0, yard.voyage(0, 0));
    exactlyDeepEnough();
    atOnce();
  }

  /** What was put aboard last counts, whatever was asked of others before. */
  private static void atOnce() {
    KeelHouse yard = withPorts();
    Yards.addBox(yard);
    Check.same("the other one floats upright", 0.0, yard.floats(1, 6));
    yard.put(0, 400, 2, 0, 160);
    yard.floats(1, 6);
    Check.same("sail of one that capsizes", -3, yard.sail(0, 0));
    yard.take(0, 0);
    yard.put(0, 900, 2, 0, 0);
    yard.floats(1, 6);
    Check.same("sail of one that lies deep", -1, yard.sail(0, 2));
    yard.take(0, 0);
    yard.bunker(0, 100);
    yard.sail(0, 0);
    yard.put(0, 300, 2, 0, 0);
    double miles = yard.speed(0, -1) * 24.0;
    yard.floats(1, 6);
    yard.pass(1);
    Check.same("it goes as heavy as it is", (int) Math.ceil(200 - miles), yard.voyage(0, 3));
  }

  private static void exactlyDeepEnough() {
    KeelHouse yard = Yards.ready();
    yard.put(0, 900, 2, 0, 0);
    int need = yard.lies(0, 2);
    yard.port(1, 1, need - 1);
    yard.port(1, 1, need);
    Check.same("sail where a tenth lacks", -1, yard.sail(0, 0));
    Check.same("sail where it is just deep enough", 10, yard.sail(0, 1));
    while (yard.voyage(0, 0) == 1) {
      yard.pass(1);
    }
    yard.put(0, 900, 3, 0, 0);
    Check.same("the yard is always deep enough", 10, yard.sail(0, -1));
  }

  private static void withoutFuel() {
    KeelHouse yard = withPorts();
    yard.bunker(0, 19);
    double miles = yard.speed(0, -1) * 24.0;
    yard.sail(0, 0);
    yard.pass(1);
    Check.same("by sails", (int) Math.ceil(200 - miles / 4), yard.voyage(0, 3));
    Check.same("fuel stays", 19, yard.voyage(0, 2));
    KeelHouse just = withPorts();
    just.bunker(0, 20);
    just.sail(0, 0);
    just.pass(1);
    Check.same("just enough fuel", (int) Math.ceil(200 - miles), just.voyage(0, 3));
    Check.same("none is left", 0, just.voyage(0, 2));
    KeelHouse storm = withPorts();
    while (storm.yard(1) != 12) {
      storm.pass(1);
    }
    storm.bunker(0, 100);
    storm.sail(0, 0);
    double slower = storm.speed(0, -1) / 2.0 * 24.0;
    storm.pass(1);
    Check.same("half of it in a storm", (int) Math.ceil(200 - slower), storm.voyage(0, 3));
    storm.net(0, 13);
    int gives = storm.engine(0, 6);
    Check.same("gives", 520, gives);
    storm.pass(1);
    Check.same("fuel for 520", 80 - 12, storm.voyage(0, 2));
    storm.valve(0, 0);
    storm.valve(0, 2);
    int left = storm.voyage(0, 3);
    storm.pass(1);
    Check.same("without gives it goes nowhere", left, storm.voyage(0, 3));
    Check.same("and burns nothing", 68, storm.voyage(0, 2));
    fuelOfTwenty();
  }

  private static void fuelOfTwenty() {
    KeelHouse drawn = Yards.drawn();
    drawn.power(0, 20);
    KeelHouse yard = Yards.ready(drawn);
    yard.port(99, 99, 100);
    yard.bunker(0, 400);
    yard.sail(0, 0);
    int[] widths = {48, 47, 50, 5, 1};
    int[] gives = {1920, 1880, 2000, 200, 40};
    int fuel = 400;
    for (int i = 0; i < widths.length; i++) {
      yard.net(0, widths[i]);
      Check.same("gives", gives[i], yard.engine(0, 6));
      yard.pass(1);
      fuel -= (gives[i] + 99) / 100 * 2;
      Check.same("fuel behind " + gives[i], fuel, yard.voyage(0, 2));
    }
  }

  /** A port that lies less than a mile further than one day goes. */
  private static void almostThere() {
    KeelHouse yard = Yards.ready();
    double miles = yard.speed(0, -1) * 24.0;
    int way = ((int) miles / 5 + 1) * 5;
    Check.same("that is less than a mile", true, way - miles > 0.0 && way - miles < 1.0);
    yard.port(way / 5, 0, 100);
    yard.bunker(0, 100);
    yard.sail(0, 0);
    yard.pass(1);
    Check.same("almost there", "0 ready at sea", yard.tell(0));
    Check.same("a mile is left, up to a whole number", 1, yard.voyage(0, 3));
    yard.pass(1);
    Check.same("there", "0 ready at port 0", yard.tell(0));
    KeelHouse still = Yards.ready();
    still.port(0, 0, 100);
    still.sail(0, 0);
    still.valve(0, 0);
    still.valve(0, 2);
    still.pass(1);
    Check.same("no miles to go, and none gone", "0 ready at port 0", still.tell(0));
  }

  private static void noMiles() {
    KeelHouse yard = Yards.ready();
    yard.port(0, 0, 100);
    Check.same("sail to the yard's own place", 0, yard.sail(0, 0));
    Check.same("it is at sea", 1, yard.voyage(0, 0));
    Check.same("no miles", 0, yard.voyage(0, 3));
    yard.pass(1);
    Check.same("it is there", "0 ready at port 0", yard.tell(0));
    Check.same("a day at sea", 1, yard.voyage(0, 8));
  }

  /** A compartment of the box takes 100 tonnes. */
  private static void stowing() {
    KeelHouse yard = withPorts();
    yard.lot(0, 1, 60, 0, 100);
    yard.lot(0, 1, 40, 1, 200);
    yard.lot(0, 1, 1, 0, 300);
    yard.lot(0, 2, 30, 0, 400);
    sailTo(yard, 0);
    double before = yard.floats(0, 0);
    double kg = yard.floats(0, 3) * before;
    double lcg = yard.floats(0, 1) * before;
    Check.same("stow tells the list", 0, yard.stow(0, 0, 3));
    Check.same("stow up to the space", 0, yard.stow(0, 1, 3));
    Check.badState(yard, "stow of 1 more", () -> yard.stow(0, 2, 3));
    Check.near("weight", before + 100, yard.floats(0, 0));
    Check.near("kg", (kg + 100 * 2.4) / (before + 100), yard.floats(0, 3));
    Check.near("lcg", (lcg + 100 * 3.5 * 40 / 6) / (before + 100), yard.floats(0, 1));
    int[] due = {1, 0, 3, 0};
    for (int what = 0; what <= 3; what++) {
      Check.same("ofLot(1, " + what + ")", due[what], yard.ofLot(1, what));
    }
    Check.same("lots aboard", 2, yard.voyage(0, 4));
    Check.same("their tonnes", 100, yard.voyage(0, 5));
    Check.badState(yard, "stow of one that is aboard", () -> yard.stow(0, 0, 4));
    Check.badState(yard, "stow into the engine's", () -> yard.stow(0, 2, 1));
    Check.same("stow elsewhere", 0, yard.stow(0, 2, 0));
    Check.same("stow in the last one", 0, yard.stow(0, 3, 5));
    Check.near("weight", before + 131, yard.floats(0, 0));
    Check.same("sound", true, yard.isSound());
    listBehindStowing();
    spaceOfTapered();
  }

  /** The space goes by the halves of the waterline 3 beside the compartment. */
  private static void spaceOfTapered() {
    KeelHouse drawn = Yards.drawn();
    for (int k = 0; k < 7; k++) {
      drawn.offset(0, k, 3, 40 - 2 * k);
    }
    KeelHouse yard = Yards.ready(drawn);
    yard.port(20, 20, 100);
    yard.port(40, 20, 100);
    int space = (int) ((36 + 34) / 16.0 * 6 / 2.0 * 40 / 6.0);
    Check.same("space of 2", 87, space);
    yard.lot(0, 1, space + 1, 0, 100);
    yard.lot(0, 1, space, 0, 100);
    sailTo(yard, 0);
    Check.badState(yard, "stow of 88", () -> yard.stow(0, 0, 2));
    Check.same("stow of 87", 0, yard.stow(0, 1, 2));
    Check.same("stow of 88 where there is more space", 0, yard.stow(0, 0, 0));
  }

  private static void listBehindStowing() {
    KeelHouse yard = withPorts();
    for (int i = 0; i < 3; i++) {
      yard.lot(0, 1, 95, 0, 100);
    }
    sailTo(yard, 0);
    yard.put(0, 100, 2, 64, 160);
    Check.same("list", 8.0, yard.floats(0, 6));
    Check.same("stow tells the list as it is then", 9, yard.stow(0, 0, 0));
    Check.same("stow, and it would capsize", 10, yard.stow(0, 1, 2));
  }

  private static void fire() {
    KeelHouse yard = withPorts();
    yard.lot(0, 1, 10, 2, 100);
    yard.lot(0, 1, 10, 2, 100);
    yard.lot(0, 1, 10, 0, 100);
    yard.lot(0, 1, 10, 1, 100);
    yard.lot(0, 1, 10, 2, 100);
    sailTo(yard, 0);
    yard.stow(0, 0, 3);
    Check.badState(yard, "fire beside fire, ahead", () -> yard.stow(0, 1, 2));
    Check.badState(yard, "fire beside fire, behind", () -> yard.stow(0, 1, 4));
    Check.badState(yard, "fire with fire", () -> yard.stow(0, 1, 3));
    Check.badState(yard, "boxes with fire", () -> yard.stow(0, 2, 3));
    Check.same("boxes beside fire", 0, yard.stow(0, 2, 4));
    Check.same("grain beside fire", 0, yard.stow(0, 3, 2));
    Check.badState(yard, "fire with grain", () -> yard.stow(0, 1, 2));
    Check.same("fire two further", 0, yard.stow(0, 1, 5));
    Check.same("fire at the stern", 0, yard.stow(0, 4, 0));
  }

  private static void stowRefuses() {
    KeelHouse yard = withPorts();
    yard.lot(0, 1, 10, 0, 100);
    yard.lot(1, 0, 10, 0, 100);
    Check.noIndex(yard, "stow(1, 0, 0)", () -> yard.stow(1, 0, 0));
    Check.noIndex(yard, "stow of lot 2", () -> yard.stow(0, 2, 0));
    Check.noIndex(yard, "stow of lot -1", () -> yard.stow(0, -1, 0));
    Check.noIndex(yard, "stow into 6", () -> yard.stow(0, 0, 6));
    Check.noIndex(yard, "stow into -1", () -> yard.stow(0, 0, -1));
    Check.badState(yard, "stow in the yard", () -> yard.stow(0, 0, 0));
    Check.badState(yard, "unload in the yard", () -> yard.unload(0));
    Check.noIndex(yard, "unload(1)", () -> yard.unload(1));
    yard.bunker(0, 100);
    yard.sail(0, 0);
    Check.badState(yard, "stow at sea", () -> yard.stow(0, 0, 0));
    Check.badState(yard, "unload at sea", () -> yard.unload(0));
    yard.pass(2);
    Check.badState(yard, "stow of a lot of another port", () -> yard.stow(0, 1, 0));
    Check.same("stow", 0, yard.stow(0, 0, 0));
    KeelHouse drawn = Yards.drawn();
    Check.badState(drawn, "unload of a drawn one", () -> drawn.unload(0));
  }

  private static void unloading() {
    KeelHouse yard = withPorts();
    unloadEight();
    yard.lot(0, 1, 60, 0, 100);
    yard.lot(0, 1, 40, 1, 250);
    yard.lot(0, 2, 30, 0, 400);
    yard.lot(0, 1, 5, 0, 7);
    sailTo(yard, 0);
    for (int lot = 0; lot < 3; lot++) {
      yard.stow(0, lot, 2 + lot);
    }
    Check.same("unload where nothing is for", 0, yard.unload(0));
    sailTo(yard, 1);
    Check.same("unload", 350, yard.unload(0));
    Check.same("freight is paid", 350, yard.money(6, 0, 14));
    Check.same("earned", 350, yard.voyage(0, 7));
    int[] due = {2, -1, -1, yard.ofLot(1, 3)};
    for (int what = 0; what <= 3; what++) {
      Check.same("ofLot(1, " + what + ")", due[what], yard.ofLot(1, what));
    }
    Check.same("lots aboard", 1, yard.voyage(0, 4));
    Check.same("one waits still", 0, yard.ofLot(3, 0));
    Check.same("unload once more", 0, yard.unload(0));
    sailTo(yard, 2);
    Check.same("unload the last one", 400, yard.unload(0));
    Check.same("earned ever", 750, yard.voyage(0, 7));
    Check.same("none is aboard", 0, yard.voyage(0, 4) + yard.voyage(0, 5));
  }

  private static void unloadEight() {
    KeelHouse yard = withPorts();
    for (int i = 0; i < 8; i++) {
      yard.lot(0, 1, 20, i % 2, 1 << i);
    }
    sailTo(yard, 0);
    for (int i = 0; i < 8; i++) {
      yard.stow(0, i, 2 + i % 4);
    }
    Check.same("eight lots", 8, yard.voyage(0, 4));
    Check.same("their tonnes", 160, yard.voyage(0, 5));
    while (yard.yard(1) != 12) {
      yard.pass(1);
    }
    sailTo(yard, 1);
    for (int i = 0; i < 8; i++) {
      Check.same("grain alone shifts", i % 2 == 1, yard.ofLot(i, 3) > 0);
    }
    Check.same("unload eight", 255, yard.unload(0));
  }

  private static void grain() {
    KeelHouse yard = withPorts();
    yard.lot(0, 1, 90, 1, 100);
    yard.lot(0, 1, 30, 0, 100);
    sailTo(yard, 0);
    yard.stow(0, 0, 3);
    yard.stow(0, 1, 4);
    while (yard.yard(1) != 12) {
      yard.pass(1);
    }
    Check.same("in a port nothing shifts", 0, yard.ofLot(0, 3));
    yard.net(0, 1);
    yard.sail(0, 1);
    yard.pass(1);
    Check.same("a storm", 15, yard.yard(1));
    Check.same("grain shifts", 4, yard.ofLot(0, 3));
    Check.same("boxes do not", 0, yard.ofLot(1, 3));
    Check.near("tcg", 90 * 0.5 / yard.floats(0, 0), yard.floats(0, 2));
    yard.pass(1);
    Check.same("grain shifts further", 8, yard.ofLot(0, 3));
    yard.pass(1);
    Check.same("no storm", 8, yard.ofLot(0, 3));
  }

  private static void lostByList() {
    KeelHouse yard = withPorts();
    yard.lot(0, 1, 50, 1, 100);
    yard.buyer(40, 0, 0, 300, 700);
    yard.bid(0, 0, 600);
    sailTo(yard, 0);
    yard.stow(0, 0, 3);
    while (yard.yard(1) != 5) {
      yard.pass(1);
    }
    yard.net(0, 1);
    yard.sail(0, 1);
    yard.put(0, 400, 2, 0, 160);
    Check.same("list", 10.0, yard.floats(0, 6));
    while (yard.yard(1) < 13) {
      Check.same("without a storm it goes on", "0 ready at sea", yard.tell(0));
      yard.pass(1);
    }
    Check.same("lost", "0 lost", yard.tell(0));
    int[] due = {0, -1, yard.voyage(0, 2), 0, 0, 0, 0, 0, yard.voyage(0, 8)};
    for (int what = 0; what <= 8; what++) {
      Check.same("voyage(0, " + what + ") of a lost one", due[what], yard.voyage(0, what));
    }
    int[] lot = {3, -1, -1, 4};
    for (int what = 0; what <= 3; what++) {
      Check.same("ofLot(0, " + what + ") of a lost one", lot[what], yard.ofLot(0, what));
    }
    Check.same("its contract is void the same day", 3, yard.sale(0, 5));
    Check.same("sound", true, yard.isSound());
  }

  /** What grain shifts in a storm counts the same day. */
  private static void lostByGrain() {
    KeelHouse yard = withPorts();
    yard.lot(0, 1, 90, 1, 100);
    sailTo(yard, 0);
    yard.stow(0, 0, 3);
    yard.put(0, 660, 2, 0, 45);
    double lean = 45.0 / yard.floats(0, 0) / yard.floats(0, 5);
    Check.same("upright", 0.0, yard.floats(0, 6));
    Check.same("half a metre of grain is too much: " + lean, true, lean < 1.0 && 2 * lean > 1.0);
    while (yard.yard(1) != 12) {
      yard.pass(1);
    }
    yard.net(0, 1);
    yard.sail(0, 1);
    yard.pass(1);
    Check.same("a first storm", "0 ready at sea", yard.tell(0));
    Check.same("it lists", true, yard.floats(0, 6) > 5.0);
    yard.pass(1);
    Check.same("a second one", "0 lost", yard.tell(0));
  }

  /** Of hollow and crest the one that strains more counts. */
  private static void holedByHollow() {
    KeelHouse yard = withPorts();
    yard.put(0, 100, 2, 0, 0);
    yard.put(0, 100, 3, 0, 0);
    Check.same("the hollow", true, yard.test(0, 1, false, 18) > 150.0);
    Check.same("the crest", true, yard.test(0, 2, false, 18) < 130.0);
    while (yard.yard(1) != 12) {
      yard.pass(1);
    }
    yard.limit(0, 140);
    yard.net(0, 1);
    yard.sail(0, 1);
    yard.pass(1);
    Check.same("holed", 1 << yard.weakest(0, false), yard.voyage(0, 6));
  }

  private static void holed() {
    KeelHouse yard = withPorts();
    yard.limit(0, 20);
    yard.bunker(0, 400);
    while (yard.yard(1) != 12) {
      yard.pass(1);
    }
    yard.sail(0, 1);
    yard.pass(1);
    int weakest = yard.weakest(0, false);
    Check.same("the weakest one is holed", 1 << weakest, yard.voyage(0, 6));
    Check.same("it goes on", true, yard.hull(0, 3) == 3);
    while (yard.voyage(0, 0) == 1) {
      yard.pass(1);
    }
    yard.pass(3);
    Check.same("it stays holed at a port", 1 << weakest, yard.voyage(0, 6));
    while (yard.yard(1) >= 12) {
      yard.pass(1);
    }
    yard.limit(0, 400);
    sailTo(yard, -1);
    Check.same("home", "0 ready at 3", yard.tell(0));
    Check.same("holed still", 1 << weakest, yard.voyage(0, 6));
    Check.same("not yet paid", 0, yard.money(7, 0, 14));
    yard.pass(1);
    Check.same("mended as a day begins", 0, yard.voyage(0, 6));
    Check.same("that costs 40", -40, yard.money(7, 0, 14));
    yard.pass(1);
    Check.same("once", -40, yard.money(7, 3, 14));
    KeelHouse strong = withPorts();
    while (strong.yard(1) != 12) {
      strong.pass(1);
    }
    double most = Math.max(strong.test(0, 1, false, 18), strong.test(0, 2, false, 18));
    strong.limit(0, (int) most + 1);
    strong.net(0, 1);
    strong.sail(0, 1);
    strong.pass(1);
    Check.same("within the limit it is not holed", 0, strong.voyage(0, 6));
    strong.limit(0, (int) most);
    strong.pass(1);
    Check.same("above it it is", true, strong.voyage(0, 6) != 0);
  }

  private static void sunk() {
    KeelHouse yard = withPorts();
    yard.limit(0, 20);
    yard.put(0, 900, 2, 0, 0);
    yard.put(0, 800, 3, 0, 0);
    int weakest = yard.weakest(0, false);
    Check.same("holed there it sinks", -1.0, yard.flood(0, 1 << weakest, false));
    while (yard.yard(1) != 12) {
      yard.pass(1);
    }
    yard.net(0, 1);
    Check.same("sail", 300, yard.sail(0, 1));
    yard.pass(1);
    Check.same("sunk", "0 lost", yard.tell(0));
    Check.same("it is told as holed", 1 << weakest, yard.voyage(0, 6));
    Check.badState(yard, "bunker of a lost one", () -> yard.bunker(0, 1));
  }

  private static void soldWithLots() {
    KeelHouse yard = withPorts();
    yard.lot(0, 1, 5, 0, 100);
    sailTo(yard, 0);
    yard.stow(0, 0, 0);
    yard.buyer(40, 0, 0, 100, 700);
    yard.bid(0, 0, 600);
    Check.same("handOver at a port", -1, yard.handOver(0));
    sailTo(yard, -1);
    Check.same("at a berth with its lot", 1, yard.voyage(0, 4));
    Check.same("handOver", 240, yard.handOver(0));
    Check.same("the lot is lost", 3, yard.ofLot(0, 0));
    Check.same("none is aboard", 0, yard.voyage(0, 4));
    Check.badArgument(yard, "sail of a sold one to the yard", () -> yard.sail(0, -1));
    Check.badState(yard, "sail of a sold one", () -> yard.sail(0, 0));
    Check.same("sound", true, yard.isSound());
  }

  /** Draws, builds and tries out a ship of 6 by 10 metres on the slip 1. */
  static void addReady(KeelHouse yard, int length) {
    int ship = yard.draw(0, length, 6, 40);
    yard.power(ship, 10);
    yard.net(ship, 40);
    yard.bulkheads(ship, 31);
    yard.limit(ship, 400);
    yard.lay(ship, 1);
    yard.order(0, 300);
    yard.order(0, 300);
    yard.pass(1);
    yard.cutAll(ship, 0);
    Yards.buildOn(yard, ship, 19);
    Yards.launch(yard, ship);
    Yards.buildOn(yard, ship, 23);
    Yards.tryOut(yard, ship);
    Check.same("it is ready", 3, yard.hull(ship, 3));
  }

  private static void shiftTo(KeelHouse yard, int ship, int spot) {
    for (int i = 0; i < 60 && yard.lies(ship, 0) != spot; i++) {
      if (yard.shift(ship, spot) < 0) {
        yard.pass(1);
      }
    }
    Check.same("shifted", spot, yard.lies(ship, 0));
  }

  private static KeelHouse store() {
    KeelHouse yard = new KeelHouse();
    yard.sheets(40, 60, 8, 1, 1);
    for (int trade = 0; trade < 3; trade++) {
      yard.teams(trade, 6);
    }
    yard.port(1, 1, 100);
    return yard;
  }

  /** Of 80 metres it fits the last berth alone: while another one lies there it waits off the yard. */
  private static void returning() {
    KeelHouse yard = store();
    addReady(yard, 80);
    addReady(yard, 40);
    Check.same("80 lies at", 5, yard.lies(0, 0));
    yard.bunker(0, 100);
    yard.sail(0, 0);
    while (yard.voyage(0, 0) == 1) {
      yard.pass(1);
    }
    shiftTo(yard, 1, 5);
    while (yard.yard(1) != 12) {
      yard.pass(1);
    }
    yard.sail(0, -1);
    yard.pass(1);
    int[] due = {1, -1, yard.voyage(0, 2), 0, 0, 0, yard.voyage(0, 6), 0, yard.voyage(0, 8)};
    yard.put(0, 500, 2, 0, 160);
    Check.same("list", 10.0, yard.floats(0, 6));
    Check.same("tell", "0 ready at sea", yard.tell(0));
    yard.pass(1);
    Check.same("a storm", true, yard.yard(1) >= 13);
    for (int what = 0; what <= 8; what++) {
      Check.same("voyage(0, " + what + ") off the yard", due[what], yard.voyage(0, what));
    }
    Check.badState(yard, "sail off the yard", () -> yard.sail(0, 0));
    Check.badState(yard, "bunker off the yard", () -> yard.bunker(0, 1));
    shiftTo(yard, 1, 4);
    yard.pass(1);
    Check.same("it comes in", "0 ready at 5", yard.tell(0));
    Check.same("days at sea", due[8], yard.voyage(0, 8));
  }

  /** Of 60 metres it fits the berths 4 and 5, and the dock if these are not free. */
  private static void intoTheDock() {
    KeelHouse yard = store();
    addReady(yard, 60);
    addReady(yard, 40);
    addReady(yard, 40);
    Check.same("60 and two of 40 lie at", 345, 100 * yard.lies(1, 0) + 10 * yard.lies(0, 0) + yard.lies(2, 0));
    yard.bunker(0, 100);
    yard.sail(0, 0);
    while (yard.voyage(0, 0) == 1) {
      yard.pass(1);
    }
    shiftTo(yard, 1, 4);
    while (yard.lies(0, 1) == 0 || yard.yard(1) != 12 || yard.yard(0) % 12 == 3) {
      yard.pass(1);
    }
    Check.same("foul at a port", true, yard.lies(0, 1) > 0);
    yard.limit(0, 20);
    yard.sail(0, -1);
    yard.pass(1);
    int paid = yard.money(7, 0, 14);
    int holes = Integer.bitCount(yard.voyage(0, 6));
    Check.same("holed in a storm on the day on which it comes in", 1, holes);
    Check.same("into the dock, its gate is shut", "0 ready at 2", yard.tell(0));
    Check.same("foul", 0, yard.lies(0, 1));
    Check.same("no tide for the gate", true, yard.yard(2) < 45);
    yard.pass(1);
    Check.same("mended in the dock", paid - 40 * holes, yard.money(7, 0, 14));
    Check.same("not holed any more", 0, yard.voyage(0, 6));
    shiftTo(yard, 2, 3);
    yard.sail(0, 0);
    while (yard.voyage(0, 0) == 1) {
      yard.pass(1);
    }
    shiftTo(yard, 1, 2);
    yard.sail(0, -1);
    while (yard.voyage(0, 0) == 1) {
      yard.pass(1);
    }
    Check.same("the smallest berth that has room", "0 ready at 4", yard.tell(0));
  }

  private static void routes() {
    KeelHouse yard = new KeelHouse();
    Check.same("route to nowhere", 0, yard.route(-1, 0, true));
    Check.same("route to nowhere, first", -1, yard.route(-1, 0, false));
    yard.port(10, 0, 20);
    yard.port(0, 20, 20);
    yard.port(30, 0, 20);
    Check.same("home from 2", 150, yard.route(2, 0, true));
    Check.same("home from 2, first", -1, yard.route(2, 0, false));
    Check.same("to 0 and 1", 300, yard.route(-1, 3, true));
    Check.same("to 0 and 1, alike both ways", 0, yard.route(-1, 3, false));
    Check.same("all", 500, yard.route(-1, 7, true));
    Check.same("from 1 to 0 and 2", 100 + 150 + 150, yard.route(1, 5, true));
    Check.same("from 1 to 0 and 2, first", 0, yard.route(1, 5, false));
    Check.same("from 0 to 1 and 2", 100 + 250 + 100, yard.route(0, 6, true));
    Check.same("from 0 to 1 and 2, first", 2, yard.route(0, 6, false));
    Check.same("from 2 to 2 and 0", 150, yard.route(2, 5, true));
    Check.same("from 2 to 2 and 0, first 2, as 0 and back would be further", 2, yard.route(2, 5, false));
    Check.same("from 2 to itself", 150, yard.route(2, 4, true));
    Check.same("from 2 to itself, first", 2, yard.route(2, 4, false));
    yard.port(30, 0, 20);
    Check.same("two at one place: the smaller first", 2, yard.route(3, 12, false));
    Check.same("that is no further", 150, yard.route(3, 12, true));
    manyRoutes();
  }

  private static int way(int[][] ports, int a, int b) {
    int[] p = a < 0 ? new int[2] : ports[a];
    int[] q = b < 0 ? new int[2] : ports[b];
    return 5 * (Math.abs(p[0] - q[0]) + Math.abs(p[1] - q[1]));
  }

  /** By trying all orders, the smallest first: the way and where it goes first. */
  private static int[] tried(int[][] ports, int from, int set) {
    if (set == 0) {
      return new int[] {way(ports, from, -1), -1};
    }
    int[] best = {Integer.MAX_VALUE, -1};
    for (int p = 0; p < ports.length; p++) {
      if ((set >> p & 1) == 1) {
        int sum = way(ports, from, p) + tried(ports, p, set & ~(1 << p))[0];
        best = sum < best[0] ? new int[] {sum, p} : best;
      }
    }
    return best;
  }

  private static void manyRoutes() {
    java.util.Random random = new java.util.Random(11);
    for (int run = 0; run < 12; run++) {
      KeelHouse yard = new KeelHouse();
      int[][] ports = new int[6][];
      for (int p = 0; p < 6; p++) {
        int most = run % 2 == 0 ? 99 : 4;
        ports[p] = new int[] {random.nextInt(most + 1), random.nextInt(most + 1)};
        yard.port(ports[p][0], ports[p][1], 20);
      }
      for (int from = -1; from < 6; from++) {
        for (int set = 0; set < 64; set++) {
          int[] due = tried(ports, from, set);
          Check.same("route(" + from + ", " + set + ", true)", due[0], yard.route(from, set, true));
          Check.same("route(" + from + ", " + set + ", false)", due[1], yard.route(from, set, false));
        }
      }
    }
  }

  private static void routesRefuse() {
    KeelHouse yard = new KeelHouse();
    Check.noIndex(yard, "route from 0 without ports", () -> yard.route(0, 1, true));
    Check.badArgument(yard, "route to 0 without ports", () -> yard.route(-1, 1, true));
    yard.port(1, 1, 20);
    yard.port(2, 2, 20);
    Check.noIndex(yard, "route from -2", () -> yard.route(-2, 4, true));
    Check.noIndex(yard, "route from 2", () -> yard.route(2, 4, true));
    Check.badArgument(yard, "route to 2", () -> yard.route(0, 4, true));
    Check.badArgument(yard, "route to -1", () -> yard.route(0, -1, true));
    Check.badArgument(yard, "route to the least int", () -> yard.route(0, Integer.MIN_VALUE, false));
    Check.badArgument(yard, "route to 64", () -> yard.route(0, 64, false));
    Check.badArgument(yard, "route to the most", () -> yard.route(0, Integer.MAX_VALUE, false));
  }
}
