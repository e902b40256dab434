import java.util.EnumSet;

/** Section 9, promises 28 to 32, at their bounds. */
public final class Bounds9VoyagesTest {
  public static void main(String[] args) throws Exception {
    Bounds.run(Bounds9VoyagesTest.class);
  }

  private static KeelHouse withPorts() {
    KeelHouse yard = new KeelHouse();
    yard.port(10, 0, 20);
    yard.port(10, 10, 20);
    return yard;
  }

  private static void comeIn(KeelHouse yard) {
    for (int i = 0; i < 60 && yard.voyage(0, 0) == 1 && yard.voyage(0, 3) > 0; i++) {
      yard.pass(1);
    }
  }

  /** Till the next day has that weather. */
  private static void aheadOf(KeelHouse yard, int weather) {
    for (int i = 0; i < 16 && (5 * yard.yard(1) + 3) % 16 != weather; i++) {
      yard.pass(1);
    }
  }

  static void promise28PortEast0To99() {
    Bounds.argument("port, east", KeelHouse::new, 0, 99, (yard, east) -> yard.port(east, 5, 100));
  }

  static void promise28PortNorth0To99() {
    Bounds.argument("port, north", KeelHouse::new, 0, 99, (yard, north) -> yard.port(5, north, 100));
  }

  static void promise28PortDeep20To200() {
    Bounds.argument("port, deep", KeelHouse::new, 20, 200, (yard, deep) -> yard.port(5, 5, deep));
  }

  static void promise28PortSixAtMost() {
    KeelHouse yard = new KeelHouse();
    for (int port = 0; port < 6; port++) {
      Check.same("port", port, yard.port(port, 0, 20));
      Check.same("its way home", 5 * port, yard.route(port, 0, true));
    }
    Check.badState(yard, "a seventh", () -> yard.port(0, 0, 20));
  }

  static void promise28LotAtAndToPortsThatAreThere() {
    KeelHouse yard = new KeelHouse();
    for (int many = 0; many <= 6; many++) {
      for (int port : new int[] {-1, many, Integer.MIN_VALUE, Integer.MAX_VALUE}) {
        Check.noIndex(yard, "lot at " + port, () -> yard.lot(port, 0, 1, 0, 1));
        Check.noIndex(yard, "lot for " + port, () -> yard.lot(0, port, 1, 0, 1));
      }
      if (many < 6) {
        yard.port(many, 0, 20);
      }
    }
    Check.same("lot from the first to the last", 0, yard.lot(0, 5, 1, 0, 1));
    Check.same("lot from the last to the first", 1, yard.lot(5, 0, 1, 0, 1));
  }

  static void promise28LotForAnotherPort() {
    KeelHouse yard = withPorts();
    Check.badArgument(yard, "lot from 0 for 0", () -> yard.lot(0, 0, 1, 0, 1));
    Check.badArgument(yard, "lot from 1 for 1", () -> yard.lot(1, 1, 1, 0, 1));
  }

  static void promise28LotTonnes1To400() {
    Bounds.argument("lot, tonnes", Bounds9VoyagesTest::withPorts, 1, 400, (yard, t) -> yard.lot(0, 1, t, 0, 1));
  }

  static void promise28LotSort0To2() {
    Bounds.argument("lot, sort", Bounds9VoyagesTest::withPorts, 0, 2, (yard, sort) -> yard.lot(0, 1, 1, sort, 1));
  }

  static void promise28LotFreight1To999() {
    Bounds.argument("lot, freight", Bounds9VoyagesTest::withPorts, 1, 999, (yard, f) -> yard.lot(0, 1, 1, 0, f));
  }

  static void promise28LotEightAtMost() {
    KeelHouse yard = withPorts();
    for (int lot = 0; lot < 8; lot++) {
      int next = lot;
      Check.noIndex(yard, "ofLot(" + next + ", 0)", () -> yard.ofLot(next, 0));
      Check.same("lot", lot, yard.lot(0, 1, 1, 0, 1));
    }
    Check.badState(yard, "a ninth", () -> yard.lot(0, 1, 1, 0, 1));
    Check.noIndex(yard, "ofLot(8, 0)", () -> yard.ofLot(8, 0));
    Check.noIndex(yard, "ofLot(-1, 0)", () -> yard.ofLot(-1, 0));
  }

  static void promise29Bunker1To400() {
    Bounds.argument("bunker", Place.READY::yard, 1, 400, (yard, tonnes) -> yard.bunker(0, tonnes));
  }

  static void promise29BunkerUpTo400() {
    KeelHouse yard = Place.READY.yard();
    Check.same("bunker", 399, yard.bunker(0, 399));
    Check.badState(yard, "bunker of 2 more", () -> yard.bunker(0, 2));
    Check.same("bunker of 1 more", 400, yard.bunker(0, 1));
    Check.badState(yard, "bunker of 1 more", () -> yard.bunker(0, 1));
    Check.same("2 for each", -800, yard.money(5, 0, 14));
  }

  static void promise29BunkerReadyAtASpotOrAPort() {
    EnumSet<Place> places = EnumSet.of(Place.READY, Place.READY_IN_DOCK, Place.PORT);
    Bounds.onlyAt("bunker", places, yard -> yard.bunker(0, 1));
  }

  /** A ready ship at the port 0, with a lot for the port 1 of each that is told, of tonnes and sort. */
  private static KeelHouse atPort(int... lots) {
    KeelHouse yard = Yards.ready();
    yard.limit(0, 400);
    yard.port(20, 20, 100);
    yard.port(40, 20, 100);
    for (int i = 0; i < lots.length; i += 2) {
      yard.lot(0, 1, lots[i], lots[i + 1], 1 + i);
    }
    yard.sail(0, 0);
    comeIn(yard);
    return yard;
  }

  static void promise29StowLotsAndCompartmentsThatAreThere() {
    KeelHouse yard = atPort(10, 0);
    for (int wrong : new int[] {-1, 1, Integer.MIN_VALUE, Integer.MAX_VALUE}) {
      Check.noIndex(yard, "stow of the lot " + wrong, () -> yard.stow(0, wrong, 0));
    }
    for (int wrong : new int[] {-1, 6, Integer.MIN_VALUE, Integer.MAX_VALUE}) {
      Check.noIndex(yard, "stow into " + wrong, () -> yard.stow(0, 0, wrong));
    }
    for (int c = 0; c <= 5; c++) {
      KeelHouse fresh = atPort(10, 0);
      int into = c;
      if (c == 1) {
        Check.badState(fresh, "stow into the engine's", () -> fresh.stow(0, 0, into));
      } else {
        Check.same("stow into " + c, 0, fresh.stow(0, 0, c));
        Check.same("where it is", c, fresh.ofLot(0, 2));
      }
    }
  }

  static void promise29StowOnlyAtThePortOfTheLot() {
    Bounds.onlyAt("stow", EnumSet.of(Place.PORT), yard -> yard.stow(0, 0, 0));
    KeelHouse yard = Place.PORT.yard();
    yard.lot(1, 0, 10, 0, 5);
    Check.badState(yard, "stow of one of another port", () -> yard.stow(0, 1, 0));
  }

  static void promise29StowOfOneThatWaits() {
    KeelHouse yard = atPort(10, 0);
    yard.stow(0, 0, 3);
    Check.badState(yard, "stow of one that is aboard", () -> yard.stow(0, 0, 4));
    yard.sail(0, 1);
    comeIn(yard);
    yard.unload(0);
    Check.badState(yard, "stow of one that was delivered", () -> yard.stow(0, 0, 3));
    yard.sail(0, 0);
    comeIn(yard);
    Check.badState(yard, "stow of one that was delivered, where it was", () -> yard.stow(0, 0, 3));
  }

  /** Each compartment of the box has a space of 100. */
  static void section9SpaceThatIsJustEnough() {
    KeelHouse yard = atPort(101, 0, 100, 0, 99, 1, 2, 0, 1, 1, 1, 0);
    Check.badState(yard, "stow of 101", () -> yard.stow(0, 0, 3));
    Check.same("stow of 100", 0, yard.stow(0, 1, 3));
    Check.badState(yard, "stow of 1 more", () -> yard.stow(0, 4, 3));
    Check.same("stow of 99", 0, yard.stow(0, 2, 2));
    Check.badState(yard, "stow of 2 more", () -> yard.stow(0, 3, 2));
    Check.same("stow of 1 more", 0, yard.stow(0, 4, 2));
    Check.badState(yard, "stow of another one", () -> yard.stow(0, 5, 2));
    Check.same("sound", true, yard.isSound());
  }

  /** (39 + 40) / 16.0 * 3 * 40 / 6 is 98.75, cut to 98. */
  static void section9SpaceIsCut() {
    KeelHouse drawn = Yards.drawn();
    drawn.offset(0, 5, 3, 39);
    KeelHouse yard = Yards.ready(drawn);
    yard.port(20, 20, 100);
    yard.port(40, 20, 100);
    yard.lot(0, 1, 99, 0, 1);
    yard.lot(0, 1, 98, 0, 1);
    yard.sail(0, 0);
    comeIn(yard);
    for (int c = 4; c <= 5; c++) {
      int into = c;
      Check.badState(yard, "stow of 99 into " + c, () -> yard.stow(0, 0, into));
    }
    Check.same("stow of 98", 0, yard.stow(0, 1, 5));
    Check.same("stow of 99 into 3", 0, yard.stow(0, 0, 3));
  }

  static void section9FireAloneAndNotBesideFire() {
    for (int c = 0; c <= 5; c++) {
      for (int other = 0; other <= 5; other++) {
        if (c == 1 || other == 1) {
          continue;
        }
        fireAndAnother(c, other);
      }
    }
  }

  /** Of eight lots each may be the one of fire. */
  static void section9FireOfEachLot() {
    for (int fire = 0; fire < 8; fire++) {
      int[] lots = new int[16];
      for (int lot = 0; lot < 8; lot++) {
        lots[2 * lot] = 10;
        lots[2 * lot + 1] = lot == fire || lot == (fire + 1) % 8 ? 2 : 0;
      }
      KeelHouse yard = atPort(lots);
      int f = fire;
      yard.stow(0, f, 3);
      Check.badState(yard, "boxes with the fire " + f, () -> yard.stow(0, (f + 2) % 8, 3));
      for (int c = 2; c <= 4; c++) {
        int into = c;
        Check.badState(yard, "more fire into " + c, () -> yard.stow(0, (f + 1) % 8, into));
      }
      Check.same("more fire into 5", 0, yard.stow(0, (f + 1) % 8, 5));
    }
  }

  private static void fireAndAnother(int c, int other) {
    boolean isBeside = Math.abs(c - other) <= 1;
    KeelHouse fire = atPort(10, 2, 10, 2);
    fire.stow(0, 0, c);
    if (isBeside) {
      Check.badState(fire, "fire in " + other + " with fire in " + c, () -> fire.stow(0, 1, other));
    } else {
      Check.same("fire in " + other + " with fire in " + c, 0, fire.stow(0, 1, other));
    }
    KeelHouse mixed = atPort(10, 2, 10, 1);
    KeelHouse turned = atPort(10, 2, 10, 0);
    mixed.stow(0, 0, c);
    turned.stow(0, 1, other);
    if (c == other) {
      Check.badState(mixed, "grain with fire", () -> mixed.stow(0, 1, other));
      Check.badState(turned, "fire with boxes", () -> turned.stow(0, 0, c));
    } else {
      Check.same("grain in " + other + " with fire in " + c, 0, mixed.stow(0, 1, other));
      Check.same("fire in " + c + " with boxes in " + other, 0, turned.stow(0, 0, c));
    }
  }

  static void promise30UnloadOnlyReadyAtAPort() {
    Bounds.onlyAt("unload", EnumSet.of(Place.PORT), yard -> yard.unload(0));
    KeelHouse none = Place.PORT.yard();
    Check.inVain(none, "unload of none", 0, () -> none.unload(0));
  }

  static void promise30SailToNoneOrAPortThatIsThere() {
    KeelHouse yard = Place.READY.yard();
    for (int port : new int[] {-2, 2, Integer.MIN_VALUE, Integer.MAX_VALUE}) {
      Check.noIndex(yard, "sail to " + port, () -> yard.sail(0, port));
    }
    Check.same("sail to the last one", 300, yard.sail(0, 1));
    KeelHouse port = Place.PORT.yard();
    Check.same("sail to the yard", 200, port.sail(0, -1));
  }

  /** Where it lies already: with NONE in the yard, not yet built, lost or sold; at a port with that. */
  static void promise30SailToWhereItLies() {
    for (Place place : Place.values()) {
      KeelHouse yard = place.yard();
      if (place == Place.SEA || place == Place.WAITING) {
        Check.badState(yard, "sail to the yard at " + place, () -> yard.sail(0, -1));
        Check.badState(yard, "sail to where it goes at " + place, () -> yard.sail(0, 1));
      } else if (place == Place.PORT) {
        Check.badArgument(yard, "sail to that port", () -> yard.sail(0, 0));
      } else {
        Check.badArgument(yard, "sail to the yard at " + place, () -> yard.sail(0, -1));
      }
    }
  }

  static void promise30SailOnlyReadyAndNotAtSea() {
    EnumSet<Place> places = EnumSet.of(Place.READY, Place.READY_IN_DOCK, Place.PORT);
    Bounds.onlyAt("sail", places, yard -> yard.sail(0, 1));
  }

  static void promise30SailWhereItIsJustDeepEnough() {
    for (int more = 0; more <= 1; more++) {
      KeelHouse yard = Place.READY.yard();
      yard.put(0, 900, 2, 0, 0);
      int need = yard.lies(0, 2);
      yard.port(2, 2, need - more);
      if (more == 0) {
        Check.same("sail where it is just deep enough", 20, yard.sail(0, 2));
      } else {
        Check.inVain(yard, "sail where a tenth lacks", -1, () -> yard.sail(0, 2));
      }
    }
    KeelHouse home = Place.PORT.yard();
    aheadOf(home, 4);
    home.put(0, 900, 2, 0, 0);
    home.put(0, 900, 3, 0, 0);
    Check.same("the yard is deep enough", 200, home.sail(0, -1));
    comeIn(home);
    Check.same("it comes in with any tide", "0 ready at 3", home.tell(0));
  }

  private static void lean(KeelHouse yard, double list) {
    for (int side = 0; side <= 64; side++) {
      yard.put(0, 800, 2, side, 20);
      if (yard.floats(0, 6) == list) {
        return;
      }
      yard.take(0, 0);
    }
    Check.same("a list of " + list, true, false);
  }

  static void promise30SailWithAListOf9And10() {
    KeelHouse nine = Place.READY.yard();
    lean(nine, 9.0);
    Check.same("sail with a list of 9", 300, nine.sail(0, 1));
    KeelHouse ten = Place.READY.yard();
    lean(ten, 10.0);
    Check.inVain(ten, "sail with a list of 10", -3, () -> ten.sail(0, 1));
    KeelHouse heavy = Place.READY.yard();
    for (int i = 0; i < 3; i++) {
      heavy.put(0, 900, 2, 0, 0);
    }
    Check.inVain(heavy, "sail without a draught", -3, () -> heavy.sail(0, 1));
  }

  static void promise30SailWithGivesOf0And20() {
    KeelHouse yard = Place.READY.yard();
    yard.net(0, 1);
    yard.valve(0, 0);
    yard.valve(0, 2);
    Check.same("gives", 0, yard.engine(0, 6));
    Check.inVain(yard, "sail with 0", -2, () -> yard.sail(0, 1));
    yard.port(1, 1, 20);
    yard.put(0, 900, 2, 0, 0);
    Check.inVain(yard, "sail with 0 where it is too shallow", -2, () -> yard.sail(0, 2));
    yard.put(0, 900, 2, 0, 160);
    Check.inVain(yard, "sail with 0 and a list of 10", -3, () -> yard.sail(0, 2));
    yard.take(0, 1);
    yard.valve(0, 0);
    Check.same("gives", 20, yard.engine(0, 6));
    Check.inVain(yard, "sail with 20 where it is too shallow", -1, () -> yard.sail(0, 2));
    Check.same("sail with 20", 300, yard.sail(0, 1));
  }

  static void promise31VoyageWhat0To8() {
    Bounds.argument("voyage", Place.DRAWN::yard, 0, 8, (yard, what) -> yard.voyage(0, what));
  }

  static void promise31OfLotWhat0To3() {
    Bounds.argument("ofLot", Place.DRAWN::yard, 0, 3, (yard, what) -> yard.ofLot(0, what));
  }

  static void promise31VoyageWhere() {
    int[] where = {0, 0, 0, 0, 0, 0, 1, 1, 2, 0, 0};
    int[] port = {-1, -1, -1, -1, -1, -1, 1, -1, 0, -1, -1};
    for (Place place : Place.values()) {
      KeelHouse yard = place.yard();
      Check.same("voyage(0, 0) at " + place, where[place.ordinal()], yard.voyage(0, 0));
      Check.same("voyage(0, 1) at " + place, port[place.ordinal()], yard.voyage(0, 1));
      Check.same("miles at " + place, place == Place.SEA ? 300 : 0, yard.voyage(0, 3));
    }
  }

  static void promise32RouteFromNoneOrAPortThatIsThere() {
    Bounds.index("route", Bounds9VoyagesTest::withPorts, -1, 1, (yard, from) -> yard.route(from, 3, true));
    Bounds.index("route", Bounds9VoyagesTest::withPorts, -1, 1, (yard, from) -> yard.route(from, 3, false));
    Bounds.index("route without ports", KeelHouse::new, -1, -1, (yard, from) -> yard.route(from, 0, true));
  }

  static void promise32RouteSetOfPortsThatAreThere() {
    Bounds.argument("route", Bounds9VoyagesTest::withPorts, 0, 3, (yard, set) -> yard.route(-1, set, true));
    Bounds.argument("route without ports", KeelHouse::new, 0, 0, (yard, set) -> yard.route(-1, set, false));
    Bounds.Maker six = () -> {
      KeelHouse yard = new KeelHouse();
      for (int port = 0; port < 6; port++) {
        yard.port(port, port, 20);
      }
      return yard;
    };
    Bounds.argument("route", six, 0, 63, (yard, set) -> yard.route(5, set, true));
  }

  static void promise32RouteOfNoPort() {
    KeelHouse yard = withPorts();
    Check.same("from the yard", 0, yard.route(-1, 0, true));
    Check.same("from the yard, first", -1, yard.route(-1, 0, false));
    Check.same("from 1", 100, yard.route(1, 0, true));
    Check.same("from 1, first", -1, yard.route(1, 0, false));
    Check.same("from 1 to 1", 100, yard.route(1, 2, true));
    Check.same("from 1 to 1, first", 1, yard.route(1, 2, false));
  }

  /** Of ways that are alike the one with the smallest port first. */
  static void promise32RouteOfWaysThatAreAlike() {
    KeelHouse yard = new KeelHouse();
    for (int port = 0; port < 6; port++) {
      yard.port(7, 7, 20);
    }
    for (int set = 1; set < 64; set++) {
      Check.same("to " + set, 140, yard.route(-1, set, true));
      Check.same("to " + set + ", first", Integer.numberOfTrailingZeros(set), yard.route(-1, set, false));
    }
  }

  static void section9AWayOf0() {
    KeelHouse yard = Place.READY.yard();
    yard.port(0, 0, 100);
    Check.same("sail", 0, yard.sail(0, 2));
    Check.same("it is at sea", "0 ready at sea", yard.tell(0));
    Check.same("no miles are left", 0, yard.voyage(0, 3));
    yard.pass(1);
    Check.same("it is there", "0 ready at port 2", yard.tell(0));
    Check.same("a day at sea", 1, yard.voyage(0, 8));
    Check.same("home", 0, yard.sail(0, -1));
    yard.pass(1);
    Check.same("it is home", "0 ready at 3", yard.tell(0));
  }

  /** A power of 10 burns 20 a day. */
  static void section9FuelThatIsJustEnough() {
    for (int fuel = 19; fuel <= 21; fuel++) {
      KeelHouse yard = Place.READY.yard();
      aheadOf(yard, 5);
      yard.bunker(0, fuel);
      yard.sail(0, 1);
      double miles = yard.speed(0, -1) * 24.0;
      yard.pass(1);
      boolean isEnough = fuel >= 20;
      Check.same("fuel of " + fuel, isEnough ? fuel - 20 : fuel, yard.voyage(0, 2));
      Check.same("miles left", (int) Math.ceil(300 - (isEnough ? miles : miles / 4.0)), yard.voyage(0, 3));
    }
  }

  /** 20 to 100 burn 2, 120 burns 4; nothing burns nothing, and that is always there. */
  static void section9FuelByWhatItGives() {
    int[] flows = {0, 1, 4, 5, 6, 10, 11, 45, 50};
    int[] burnt = {0, 2, 2, 2, 4, 4, 6, 18, 20};
    for (int i = 0; i < flows.length; i++) {
      KeelHouse yard = Place.SEA.yard();
      yard.net(0, 1);
      for (int pipe = 0; pipe < 6; pipe++) {
        yard.valve(0, pipe);
      }
      if (flows[i] > 0) {
        yard.pipe(0, 0, 7, flows[i]);
      }
      yard.pass(1);
      Check.same("without fuel none is burnt", 0, yard.voyage(0, 2));
      KeelHouse fuelled = Place.READY.yard();
      fuelled.bunker(0, 100);
      fuelled.sail(0, 1);
      fuelled.net(0, 1);
      for (int pipe = 0; pipe < 6; pipe++) {
        fuelled.valve(0, pipe);
      }
      if (flows[i] > 0) {
        fuelled.pipe(0, 0, 7, flows[i]);
      }
      fuelled.pass(1);
      Check.same("fuel behind a flow of " + flows[i], 100 - burnt[i], fuelled.voyage(0, 2));
    }
  }

  static void section9HalfOfItsSpeedInAStorm() {
    for (int weather : new int[] {11, 12, 13, 14}) {
      KeelHouse yard = Place.READY.yard();
      aheadOf(yard, weather);
      yard.bunker(0, 100);
      yard.sail(0, 1);
      double speed = yard.speed(0, -1);
      yard.pass(1);
      Check.same("weather", weather, yard.yard(1));
      double miles = (weather >= 13 ? speed / 2.0 : speed) * 24.0;
      Check.same("miles left with " + weather, (int) Math.ceil(300 - miles), yard.voyage(0, 3));
    }
  }

  static void section9GrainShiftsInAStorm() {
    for (int weather : new int[] {11, 12, 13, 14}) {
      KeelHouse yard = atPort(50, 0, 50, 1, 20, 2);
      aheadOf(yard, weather);
      yard.stow(0, 0, 0);
      yard.stow(0, 1, 3);
      yard.stow(0, 2, 5);
      yard.net(0, 1);
      yard.sail(0, 1);
      yard.pass(1);
      Check.same("boxes", 0, yard.ofLot(0, 3));
      Check.same("grain with " + weather, weather >= 13 ? 4 : 0, yard.ofLot(1, 3));
      Check.same("fire", 0, yard.ofLot(2, 3));
      Check.near("tcg", weather >= 13 ? 25.0 / yard.floats(0, 0) : 0.0, yard.floats(0, 2));
    }
  }

  static void section9AListOf9And10AtSea() {
    for (double list : new double[] {9.0, 10.0}) {
      for (int weather : new int[] {12, 13}) {
        KeelHouse yard = Place.SEA.yard();
        yard.net(0, 1);
        aheadOf(yard, weather);
        lean(yard, list);
        yard.pass(1);
        boolean isLost = list == 10.0 && weather == 13;
        Check.same("a list of " + list + " with " + weather, isLost ? "0 lost" : "0 ready at sea", yard.tell(0));
        Check.same("where", isLost ? 0 : 1, yard.voyage(0, 0));
      }
    }
  }

  /** Grain that shifts may be what makes it list too much, the same day. */
  static void section9GrainShiftsAheadOfTheList() {
    KeelHouse yard = atPort(90, 1);
    yard.stow(0, 0, 3);
    yard.put(0, 660, 2, 0, 45);
    yard.net(0, 1);
    aheadOf(yard, 15);
    yard.sail(0, 1);
    yard.pass(1);
    Check.same("a first storm", "0 ready at sea", yard.tell(0));
    Check.same("half a metre", 4, yard.ofLot(0, 3));
    yard.pass(1);
    Check.same("a second one", "0 lost", yard.tell(0));
    Check.same("a whole metre", 8, yard.ofLot(0, 3));
    Check.same("it is lost, too", 3, yard.ofLot(0, 0));
  }

  /** That load strains it with just 250 in the hollow. */
  static void section9HoledAboveTheLimit() {
    for (int limit : new int[] {249, 250}) {
      KeelHouse yard = Place.SEA.yard();
      yard.net(0, 1);
      yard.put(0, 94, 1, 0, 0);
      yard.put(0, 45, 3, 0, 0);
      Check.same("in the hollow", 250.0, yard.test(0, 1, false, 18));
      Check.same("with the crest", true, yard.test(0, 2, false, 18) < 250.0);
      yard.limit(0, limit);
      aheadOf(yard, 12);
      yard.pass(1);
      Check.same("no storm", 0, yard.voyage(0, 6));
      yard.pass(1);
      Check.same("holed with a limit of " + limit, limit == 249 ? 1 << yard.weakest(0, false) : 0, yard.voyage(0, 6));
    }
  }

  /** 237 tonnes in the compartment 2: just 250 with the crest, a bit less in the hollow. */
  static void section9HoledByTheCrest() {
    for (int limit : new int[] {249, 250}) {
      KeelHouse yard = Place.SEA.yard();
      yard.net(0, 1);
      yard.put(0, 237, 2, 0, 0);
      Check.same("with the crest", 250.0, yard.test(0, 2, false, 18));
      yard.limit(0, limit);
      aheadOf(yard, 15);
      yard.pass(1);
      Check.same("holed with a limit of " + limit, limit == 250, yard.voyage(0, 6) == 0);
    }
  }

  /** What strains it in still water does not count, but for which compartment is the weakest. */
  static void section9HoledNotByStillWater() {
    KeelHouse drawn = new KeelHouse();
    drawn.draw(1, 28, 10, 79);
    drawn.offset(0, 4, 1, 47);
    drawn.offset(0, 3, 2, 31);
    drawn.offset(0, 6, 0, 19);
    drawn.power(0, 10);
    drawn.net(0, 40);
    KeelHouse yard = Yards.ready(drawn);
    yard.port(40, 40, 200);
    yard.sail(0, 0);
    yard.net(0, 1);
    int at = 0;
    yard.put(0, 10, 0, 0, 0);
    while (!isStillWorst(yard) && at < 240) {
      at++;
      yard.take(0, 0);
      yard.put(0, at % 40 * 10 + 10, at / 40, 0, 0);
    }
    Check.same("still water strains it most", true, isStillWorst(yard));
    yard.limit(0, (int) yard.test(0, 0, false, 18));
    aheadOf(yard, 15);
    yard.pass(1);
    Check.same("not holed", 0, yard.voyage(0, 6));
    yard.limit(0, (int) Math.max(yard.test(0, 1, false, 18), yard.test(0, 2, false, 18)));
    yard.pass(1);
    Check.same("holed by a wave", 1 << yard.weakest(0, false), yard.voyage(0, 6));
  }

  private static boolean isStillWorst(KeelHouse yard) {
    double waves = Math.max(yard.test(0, 1, false, 18), yard.test(0, 2, false, 18));
    return (int) yard.test(0, 0, false, 18) >= waves && waves > 20.0;
  }

  /** With all it is holed by: it floats with one that is holed, and sinks with a second one. */
  static void section9SinksByAllThatAreHoled() {
    KeelHouse yard = Place.SEA.yard();
    yard.net(0, 1);
    yard.limit(0, 20);
    yard.put(0, 900, 0, 0, 0);
    yard.put(0, 900, 5, 0, 0);
    aheadOf(yard, 15);
    int first = 1 << yard.weakest(0, false);
    boolean isFloating = yard.flood(0, first, false) >= 0.0;
    yard.pass(1);
    Check.same("holed", first, yard.voyage(0, 6));
    Check.same("it floats, or is lost", isFloating ? "0 ready at sea" : "0 lost", yard.tell(0));
    KeelHouse light = Place.SEA.yard();
    light.net(0, 1);
    light.limit(0, 20);
    aheadOf(light, 15);
    light.pass(2);
    int holed = light.voyage(0, 6);
    Check.same("two storms, one weakest compartment", 1, Integer.bitCount(holed));
    light.put(0, 100, holed == 1 ? 4 : 0, 0, 0);
    aheadOf(light, 13);
    light.pass(1);
    Check.same("another one is holed, too, and the first one stays so", holed | 1 << light.weakest(0, false),
        light.voyage(0, 6));
  }

  static void section9MendedAtABerthAndInTheDock() {
    KeelHouse yard = Place.PORT.yard();
    yard.limit(0, 20);
    yard.net(0, 1);
    yard.sail(0, -1);
    aheadOf(yard, 15);
    yard.pass(2);
    int holed = Integer.bitCount(yard.voyage(0, 6));
    Check.same("holed at sea", 1, holed);
    yard.limit(0, 400);
    yard.net(0, 40);
    comeIn(yard);
    Check.same("home", "0 ready at 3", yard.tell(0));
    Check.same("holed still", 1, Integer.bitCount(yard.voyage(0, 6)));
    Check.same("nothing is paid", 0, yard.money(7, 0, 14));
    yard.pass(1);
    Check.same("not holed any more", 0, yard.voyage(0, 6));
    Check.same("40 is paid", -40, yard.money(7, 0, 14));
    yard.pass(1);
    Check.same("once", -40, yard.money(7, 0, 14));
  }

  /** Of 40 metres: the berth 3 if it is free, else 4; of 80 the berth 5, or it waits. */
  static void section9NoFreeBerth() {
    KeelHouse yard = Place.WAITING.yard();
    Check.same("it waits", "0 ready at sea", yard.tell(0));
    int days = yard.voyage(0, 8);
    int fuel = yard.voyage(0, 2);
    yard.pass(5);
    Check.same("it waits still", "0 ready at sea", yard.tell(0));
    Check.same("days on which it waits do not count", days, yard.voyage(0, 8));
    Check.same("nor is fuel burnt", fuel, yard.voyage(0, 2));
    Yards.calm(yard, 46);
    yard.shift(1, 4);
    Check.same("till the day ends it waits", "0 ready at sea", yard.tell(0));
    yard.pass(1);
    Check.same("it is in", "0 ready at 5", yard.tell(0));
    Check.same("days", days, yard.voyage(0, 8));
  }

  /** Nothing happens to one that waits in a storm, whatever its list, its limit and its grain. */
  static void section9WaitingInAStorm() {
    KeelHouse yard = Place.WAITING.yard();
    yard.limit(0, 20);
    yard.put(0, 900, 2, 0, 160);
    Check.same("list", 10.0, yard.floats(0, 6));
    int holed = yard.voyage(0, 6);
    aheadOf(yard, 15);
    yard.pass(2);
    Check.same("it waits", "0 ready at sea", yard.tell(0));
    Check.same("holed", holed, yard.voyage(0, 6));
  }

  /** A berth has to have room, and be free, else the dock, with room of 70. */
  static void section9IntoTheDockWithoutABerth() {
    for (int length = 70; length <= 71; length++) {
      KeelHouse yard = new KeelHouse();
      yard.draw(0, length, 6, 40);
      yard.power(0, 20);
      yard.net(0, 40);
      for (int c = 0; c < 6; c++) {
        yard.plan(0, c, 0, 0, 0);
      }
      yard.lay(0, 1);
      for (int trade = 0; trade < 3; trade++) {
        yard.teams(trade, 6);
      }
      yard.pass(30);
      Yards.launch(yard, 0);
      Yards.buildOn(yard, 0, 23);
      Yards.tryOut(yard, 0);
      Check.same("it is ready", 3, yard.hull(0, 3));
      yard.port(1, 1, 100);
      yard.sail(0, 0);
      yard.pass(1);
      for (int other = 1; other <= 2; other++) {
        blockBerth(yard, other, length == 70 ? 6 - other : 5);
      }
      aheadOf(yard, 15);
      yard.limit(0, 20);
      yard.sail(0, -1);
      yard.pass(1);
      Check.same("of " + length, length == 70 ? "0 ready at 2" : "0 ready at sea", yard.tell(0));
      Check.same("holed on its way", 1, Integer.bitCount(yard.voyage(0, 6)));
      Check.same("foul", length == 70, yard.lies(0, 1) == 0);
      yard.pass(1);
      Check.same("mended in the dock", length == 70, yard.voyage(0, 6) == 0);
      Check.same("that costs 40 there", length == 70 ? -40 : 0, yard.money(7, 0, 14));
    }
  }

  private static void blockBerth(KeelHouse yard, int ship, int berth) {
    yard.draw(0, 40, 6, 40);
    for (int c = 0; c < 6; c++) {
      yard.plan(ship, c, 0, 0, 0);
    }
    yard.lay(ship, 0);
    yard.pass(30);
    Yards.launch(yard, ship);
    for (int i = 0; i < 60 && yard.lies(ship, 0) != berth && yard.spot(berth, 0) == -1; i++) {
      if (yard.shift(ship, berth) < 0) {
        yard.pass(1);
      }
    }
  }

  /** Just the miles of one day, or a bit more: there, or a day later. */
  static void section9TheWayIsGone() {
    KeelHouse probe = Place.READY.yard();
    double miles = probe.speed(0, -1) * 24.0;
    int less = (int) miles / 5;
    for (int far = less; far <= less + 1; far++) {
      KeelHouse yard = Place.READY.yard();
      aheadOf(yard, 5);
      yard.bunker(0, 100);
      yard.port(far, 0, 100);
      Check.same("sail", 5 * far, yard.sail(0, 2));
      Check.near("the same speed", miles, yard.speed(0, -1) * 24.0);
      yard.pass(1);
      Check.same("a way of " + 5 * far + " by " + miles, far == less ? "0 ready at port 2" : "0 ready at sea",
          yard.tell(0));
      Check.same("miles left", far == less ? 0 : (int) Math.ceil(5 * far - miles), yard.voyage(0, 3));
    }
  }

  /** With 519 tonnes it goes just 150 miles a day, with 140 it lacks less than a hundredth of 160. */
  static void section9TheWayIsJustGone() {
    int[] tonnes = {519, 140, 139};
    int[] ways = {150, 160, 160};
    for (int i = 0; i < 3; i++) {
      KeelHouse yard = Place.READY.yard();
      aheadOf(yard, 5);
      yard.put(0, tonnes[i], 2, 0, 0);
      yard.bunker(0, 100);
      yard.port(ways[i] / 5, 0, 100);
      yard.sail(0, 2);
      double left = ways[i] - yard.speed(0, -1) * 24.0;
      Check.same("foul of 1, as it was reckoned", 1, yard.lies(0, 1));
      Check.same("what is left", i == 1, left > 0.0 && left < 0.01);
      yard.pass(1);
      Check.same("with " + tonnes[i], i == 1 ? "0 ready at sea" : "0 ready at port 2", yard.tell(0));
      Check.same("miles", i == 1 ? 1 : 0, yard.voyage(0, 3));
    }
  }

  /** Half a metre in each storm, three storms in sixteen days. */
  static void promise31OfLotSideBehindManyStorms() {
    KeelHouse yard = atPort(1, 1);
    yard.stow(0, 0, 3);
    yard.port(99, 99, 100);
    yard.net(0, 1);
    yard.sail(0, 2);
    int storms = 0;
    while (storms < 24) {
      Check.same("behind " + storms + " storms", 4 * storms, yard.ofLot(0, 3));
      yard.net(0, 1);
      yard.valve(0, 0);
      yard.valve(0, 2);
      yard.pass(1);
      storms += yard.yard(1) >= 13 ? 1 : 0;
    }
    Check.same("behind 24", 96, yard.ofLot(0, 3));
  }

  /** The after half has plates of 40, the other one of 8, both planned of 6. */
  static void section9HoledIsTheWeakestAsItIs() {
    KeelHouse yard = Yards.drawn();
    yard.lay(0, 0);
    Yards.supply(yard);
    yard.sheets(40, 120, 40, 1, 1);
    yard.order(1, 300);
    yard.pass(1);
    for (int at = 0; at < 18; at++) {
      yard.cut(0, at / 3, at % 3, at / 3 < 3 ? 1 : 0);
    }
    Yards.buildOn(yard, 0, 19);
    Yards.launch(yard, 0);
    Yards.buildOn(yard, 0, 23);
    Yards.tryOut(yard, 0);
    yard.put(0, 200, 0, 0, 0);
    yard.put(0, 300, 5, 0, 0);
    int weakest = yard.weakest(0, false);
    Check.same("weakest as it is", 3, weakest);
    Check.same("by plan it is another one", 2, yard.weakest(0, true));
    yard.limit(0, 20);
    yard.port(99, 99, 200);
    yard.net(0, 1);
    aheadOf(yard, 15);
    Check.same("sail", 990, yard.sail(0, 0));
    yard.pass(1);
    Check.same("holed", 1 << weakest, yard.voyage(0, 6));
  }

  static void promise30SailInAStorm() {
    KeelHouse yard = Place.READY.yard();
    aheadOf(yard, 13);
    yard.pass(1);
    Check.same("a storm", 13, yard.yard(1));
    Check.same("sail in a storm", 300, yard.sail(0, 1));
  }

  /** 100 tonnes lie high to starboard: a list of 8, with 95 more of 9, with 190 more of 10. */
  static void promise29StowTellsTheListThen() {
    KeelHouse yard = atPort(95, 0, 95, 0);
    yard.put(0, 100, 2, 64, 160);
    Check.same("list", 8.0, yard.floats(0, 6));
    Check.same("stow", 9, yard.stow(0, 0, 0));
    Check.same("stow", 10, yard.stow(0, 1, 2));
  }

  static void promise30UnloadWhatIsForThatPort() {
    KeelHouse yard = atPort(50, 0, 40, 1, 30, 2);
    yard.port(45, 20, 100);
    yard.lot(0, 2, 20, 0, 999);
    yard.lot(1, 0, 20, 0, 500);
    yard.stow(0, 0, 0);
    yard.stow(0, 1, 3);
    yard.stow(0, 3, 4);
    Check.inVain(yard, "unload where none is for", 0, () -> yard.unload(0));
    yard.sail(0, 1);
    comeIn(yard);
    Check.same("unload of two", 1 + 3, yard.unload(0));
    Check.same("earned", 4, yard.voyage(0, 7));
    Check.same("paid", 4, yard.money(6, 0, 14));
    Check.inVain(yard, "unload once more", 0, () -> yard.unload(0));
    int[] standing = {2, 2, 0, 1, 0};
    for (int lot = 0; lot < 5; lot++) {
      Check.same("how " + lot + " stands", standing[lot], yard.ofLot(lot, 0));
      Check.same("its ship", lot == 3 ? 0 : -1, yard.ofLot(lot, 1));
      Check.same("its compartment", lot == 3 ? 4 : -1, yard.ofLot(lot, 2));
    }
    yard.sail(0, 2);
    comeIn(yard);
    Check.same("unload of the last one", 999, yard.unload(0));
    Check.same("earned ever", 1003, yard.voyage(0, 7));
  }

  static void promise31VoyageLotsAboardAndTheirTonnes() {
    KeelHouse yard = atPort(10, 0, 20, 1, 30, 2, 40, 0, 1, 0, 2, 1, 3, 0, 4, 1);
    int[] into = {0, 0, 4, 2, 0, 2, 0, 2};
    int tonnes = 0;
    int[] each = {10, 20, 30, 40, 1, 2, 3, 4};
    Check.same("none aboard", 0, yard.voyage(0, 4) + yard.voyage(0, 5));
    for (int lot = 0; lot < 8; lot++) {
      yard.stow(0, lot, into[lot]);
      tonnes += each[lot];
      Check.same("lots", lot + 1, yard.voyage(0, 4));
      Check.same("tonnes", tonnes, yard.voyage(0, 5));
    }
    yard.sail(0, 1);
    comeIn(yard);
    yard.unload(0);
    Check.same("none aboard", 0, yard.voyage(0, 4) + yard.voyage(0, 5));
  }

  static void section9LotsOfOthersStayAsAShipIsLostOrSold() {
    for (Place place : new Place[] {Place.LOST, Place.SOLD}) {
      KeelHouse yard = place.yard();
      Check.same("one that waits, " + place, 0, yard.ofLot(0, 0));
    }
    KeelHouse yard = atPort(10, 0, 20, 0, 30, 0);
    yard.stow(0, 0, 3);
    yard.sail(0, 1);
    comeIn(yard);
    yard.unload(0);
    yard.lot(1, 0, 5, 0, 7);
    yard.stow(0, 3, 4);
    aheadOf(yard, 15);
    yard.sail(0, 0);
    yard.put(0, 400, 2, 0, 160);
    yard.pass(1);
    Check.same("lost", "0 lost", yard.tell(0));
    int[] standing = {2, 0, 0, 3};
    for (int lot = 0; lot < 4; lot++) {
      Check.same("how " + lot + " stands", standing[lot], yard.ofLot(lot, 0));
    }
  }

  /** What is lost on the day on which it would come in comes to no spot and no port. */
  static void section9LostOnTheDayOfItsArrival() {
    for (int port : new int[] {-1, 2}) {
      KeelHouse yard = Place.READY.yard();
      yard.port(0, 0, 100);
      yard.port(1, 0, 100);
      yard.sail(0, 3);
      yard.pass(1);
      aheadOf(yard, 15);
      yard.sail(0, port);
      yard.put(0, 400, 2, 0, 160);
      int fees = yard.money(2, 0, 14);
      yard.pass(1);
      Check.same("lost", "0 lost", yard.tell(0));
      Check.same("its spot", -1, yard.lies(0, 0));
      Check.same("the berth 3", -1, yard.spot(3, 0));
      Check.same("where it is", 0, yard.voyage(0, 0));
      Check.same("its port", -1, yard.voyage(0, 1));
      Check.same("a day at sea", 2, yard.voyage(0, 8));
      Check.same("sound", true, yard.isSound());
      yard.pass(1);
      Check.same("it costs nothing", fees, yard.money(2, 0, 14));
    }
  }

  static void section9SailsAgainBehindADayOnWhichItWaited() {
    KeelHouse yard = Place.WAITING.yard();
    Yards.calm(yard, 46);
    yard.shift(1, 4);
    yard.pass(1);
    Check.same("it came in", "0 ready at 5", yard.tell(0));
    int days = yard.voyage(0, 8);
    Check.same("sail", 300, yard.sail(0, 1));
    Check.same("miles left", 300, yard.voyage(0, 3));
    yard.pass(1);
    Check.same("it is at sea", "0 ready at sea", yard.tell(0));
    Check.same("miles left", true, yard.voyage(0, 3) > 0 && yard.voyage(0, 3) < 300);
    Check.same("a day more", days + 1, yard.voyage(0, 8));
  }
}
