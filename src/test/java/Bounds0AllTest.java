import java.util.List;

/** Section 0: what holds for all parts. */
public final class Bounds0AllTest {
  public static void main(String[] args) throws Exception {
    Bounds.run(Bounds0AllTest.class);
  }

  static void promise1NewYardIsEmptyOnDay0() {
    KeelHouse yard = new KeelHouse();
    int[] due = {0, 7, 44, 0, 0, 0, 0, 0, 0, 0, 0, 0, 0, 0};
    for (int what = 0; what <= 13; what++) {
      Check.same("yard(" + what + ")", due[what], yard.yard(what));
    }
    Check.same("cash()", 5000, yard.cash());
    Check.same("bell()", 1, yard.bell());
    for (int number = 0; number < 3; number++) {
      int n = number;
      Check.noIndex(yard, "tell(" + n + ")", () -> yard.tell(n));
      Check.noIndex(yard, "store(" + n + ", 0)", () -> yard.store(n, 0));
      Check.noIndex(yard, "sale(" + n + ", 0)", () -> yard.sale(n, 0));
      Check.noIndex(yard, "ofLot(" + n + ", 0)", () -> yard.ofLot(n, 0));
      Check.noIndex(yard, "route(" + n + ", 0, true)", () -> yard.route(n, 0, true));
    }
  }

  static void section0NoneIsMinus1() {
    KeelHouse yard = Place.DRAWN.yard();
    Check.same("spot(0, 0)", -1, yard.spot(0, 0));
    Check.same("lies(0, 0)", -1, yard.lies(0, 0));
    Check.same("voyage(0, 1)", -1, yard.voyage(0, 1));
    Check.same("ofLot(0, 1)", -1, yard.ofLot(0, 1));
    Check.same("ofLot(0, 2)", -1, yard.ofLot(0, 2));
    Check.same("sale(0, 6)", -1, yard.sale(0, 6));
    Check.same("route(0, 0, false)", -1, yard.route(0, 0, false));
    Check.same("speed(0, -1) of one without an engine", 0.0, yard.speed(0, -1));
    Check.same("speed(0, 0)", 0.0, yard.speed(0, 0));
  }

  static void section0DivisionRoundsTowards0() {
    KeelHouse yard = new KeelHouse();
    yard.draw(1, 20, 4, 41);
    Check.same("41 * 3 * 4 / 64 is 7.7", 7, yard.hull(0, 100));
    Check.same("41 * 2 * 7 / 64 is 8.97", 8, yard.hull(0, 131));
    KeelHouse paid = Place.DRAWN.yard();
    paid.bid(0, 0, 14);
    Check.same("14 / 5 is 2.8", 2, paid.sale(0, 9));
  }

  static void section0NumbersOfShipsBegin() {
    KeelHouse yard = new KeelHouse();
    for (int ship = 0; ship < 3; ship++) {
      Check.same("draw", ship, yard.draw(0, 40, 6, 40));
      Check.same("its stage is 0", 0, yard.hull(ship, 3));
      int next = ship + 1;
      Check.noIndex(yard, "tell(" + next + ")", () -> yard.tell(next));
    }
    Check.badState(yard, "a fourth one", () -> yard.draw(0, 40, 6, 40));
    Check.same("the third one", "2 drawn", yard.tell(2));
  }

  static void section0StagesAre0To5() {
    int[] stages = {0, 1, 2, 2, 3, 3, 3, 3, 3, 4, 5};
    for (Place place : Place.values()) {
      KeelHouse yard = place.yard();
      Check.same("hull(0, 3) " + place, stages[place.ordinal()], yard.hull(0, 3));
      Check.same("tell(0) " + place, place.told(), yard.tell(0));
    }
  }

  /** 7 on day 0; behind 16 days it comes round. */
  static void section0WeatherGoesRound() {
    int[] due = {7, 6, 1, 8, 11, 10, 5, 12, 15, 14, 9, 0, 3, 2, 13, 4, 7, 6};
    KeelHouse yard = new KeelHouse();
    for (int day = 0; day < due.length; day++) {
      Check.same("weather of " + day, due[day], yard.yard(1));
      yard.pass(1);
    }
    yard.pass(30);
    Check.same("day 48 is as day 0", 7, yard.yard(1));
  }

  static void section0DayIs400AtMost() {
    KeelHouse yard = new KeelHouse();
    for (int i = 0; i < 13; i++) {
      yard.pass(30);
    }
    Check.same("day", 390, yard.yard(0));
    Check.badState(yard, "pass(11) on 390", () -> yard.pass(11));
    Check.same("pass(10) on 390", 400, yard.pass(10));
    Check.badState(yard, "pass(1) on 400", () -> yard.pass(1));
    Check.same("weather of 400", 7, yard.yard(1));
  }

  /** In rain, with a weather of 4 but not of 5, painters rest and platers work half a day. */
  static void section0RainIsBelow5() {
    int[] inRain = {4, 8, 0};
    for (int weather = 0; weather < 16; weather++) {
      for (int trade = 0; trade < 3; trade++) {
        KeelHouse yard = Yards.withoutStrakes();
        while (yard.yard(1) != (13 * weather + 9) % 16) {
          yard.pass(1);
        }
        yard.teams(trade, 1);
        yard.pass(1);
        Check.same("the day's weather", weather, yard.yard(1));
        Check.same("hours of the trade " + trade + " with " + weather, weather < 5 ? inRain[trade] : 8,
            yard.yard(12));
      }
    }
  }

  /** Nothing is launched in a storm: with a weather of 13, but with one of 12. */
  static void section0StormIsFrom13On() {
    boolean[] isSeen = new boolean[16];
    for (int day = 0; day < 60; day++) {
      KeelHouse yard = Yards.withoutStrakes();
      yard.teams(0, 6);
      yard.teams(1, 6);
      yard.pass(24);
      for (int i = 0; i < day; i++) {
        yard.pass(1);
      }
      int weather = yard.yard(1);
      if (yard.yard(2) >= 30) {
        isSeen[weather] = true;
        Check.same("launch with a weather of " + weather, weather >= 13 ? -1 : 3, yard.launch(0));
      }
    }
    for (int weather = 11; weather < 16; weather++) {
      Check.same("a weather of " + weather + " was seen", true, isSeen[weather]);
    }
  }

  static void section0WhatIsAskedChangesNothing() {
    for (Place place : Place.values()) {
      KeelHouse asked = place.yard();
      KeelHouse alone = place.yard();
      List<Answers.Answer> first = Answers.of(asked);
      askMore(asked);
      Check.same("asked twice " + place, "alike", Answers.apart(first, Answers.of(asked)));
      asked.pass(17);
      alone.pass(17);
      Check.same("days behind that " + place, "alike", Answers.apart(Answers.of(alone), Answers.of(asked)));
    }
  }

  private static void askMore(KeelHouse yard) {
    for (int part = 1; part <= 10; part++) {
      yard.audit(part);
    }
    for (int more = 0; more <= 2; more++) {
      int m = more;
      Check.made(() -> yard.done(0, m));
    }
    for (int holed = 0; holed < 64; holed++) {
      yard.flood(0, holed, true);
    }
    yard.isSound();
    yard.digest();
    yard.tell(0);
  }

  static void section0NoDoubleIsEverMinus0() {
    for (Place place : Place.values()) {
      KeelHouse yard = place.yard();
      for (Answers.Answer answer : Answers.of(yard)) {
        boolean isMinus0 = answer.told() instanceof Double && answer.told().toString().equals("-0.0");
        Check.same(answer + " is -0.0", false, isMinus0);
      }
    }
    leaning();
  }

  /** What lies as far to port as to starboard. */
  private static void leaning() {
    KeelHouse yard = new KeelHouse();
    yard.draw(0, 40, 8, 40);
    yard.put(0, 100, 2, -8, 0);
    yard.put(0, 100, 3, 8, 0);
    Check.same("tcg", "0.0", Double.toString(yard.floats(0, 2)));
    for (int sea = 0; sea < 3; sea++) {
      for (int what = 0; what <= 18; what++) {
        Check.same("test(0, " + sea + ", false, " + what + ")", false,
            Double.toString(yard.test(0, sea, false, what)).equals("-0.0"));
      }
    }
    for (int what = 0; what <= 6; what++) {
      Check.same("water(0, 0, " + what + ")", false, Double.toString(yard.water(0, 0, what)).equals("-0.0"));
    }
  }

  /** A call may be wrong in several ways: what is named first is thrown. */
  static void section0FirstExceptionIsThrown() {
    KeelHouse yard = Place.LOST.yard();
    yard.draw(0, 40, 6, 40);
    yard.draw(0, 40, 6, 40);
    Check.badArgument(yard, "draw: argument, state", () -> yard.draw(3, 40, 6, 40));
    Check.noIndex(yard, "offset: index, argument, state", () -> yard.offset(0, 7, 0, 81));
    Check.badArgument(yard, "offset: argument, state", () -> yard.offset(0, 0, 0, 81));
    Check.noIndex(yard, "hull: index, argument", () -> yard.hull(3, 4));
    Check.noIndex(yard, "water: index, argument", () -> yard.water(3, -1, 7));
    Check.noIndex(yard, "draught: index, argument", () -> yard.draught(3, -1));
    Check.noIndex(yard, "put: index, argument, state", () -> yard.put(0, 0, 6, 0, 0));
    Check.badArgument(yard, "put: argument, state", () -> yard.put(0, 0, 0, 0, 0));
    Check.noIndex(yard, "take: index, state", () -> yard.take(0, 1));
    Check.badArgument(yard, "fill: argument, state", () -> yard.fill(0, 9));
    Check.badArgument(yard, "bulkheads: argument, state", () -> yard.bulkheads(0, 32));
    Check.noIndex(yard, "floats: index, argument", () -> yard.floats(3, 9));
    Check.noIndex(yard, "flood: index, argument", () -> yard.flood(3, 64, true));
    Check.noIndex(yard, "plan: index, argument, state", () -> yard.plan(0, 6, 41, 0, 0));
    Check.badArgument(yard, "plan: argument, state", () -> yard.plan(0, 0, 41, 0, 0));
    Check.noIndex(yard, "limit: index, argument", () -> yard.limit(3, 19));
    Check.noIndex(yard, "strake: index, argument", () -> yard.strake(0, 6, 6));
    Check.noIndex(yard, "test: index, argument", () -> yard.test(3, 3, true, 19));
    Check.noIndex(yard, "order: index, argument", () -> yard.order(1, 0));
    Check.noIndex(yard, "cut: index, argument, state", () -> yard.cut(0, 0, 3, 0));
    Check.noIndex(yard, "store: index, argument", () -> yard.store(1, 9));
    Check.noIndex(yard, "lay: index, state", () -> yard.lay(0, 2));
    Check.noIndex(yard, "shift: index, state", () -> yard.shift(0, 6));
    Check.noIndex(yard, "spot: index, argument", () -> yard.spot(6, 4));
    Check.noIndex(yard, "lies: index, argument", () -> yard.lies(3, 3));
    Check.noIndex(yard, "teams: index, argument", () -> yard.teams(3, 7));
  }

  static void section0FirstExceptionIsThrownFurther() {
    KeelHouse yard = Place.LOST.yard();
    yard.draw(0, 40, 6, 40);
    Check.noIndex(yard, "job: index, argument, state", () -> yard.job(1, 24, 9));
    Check.badArgument(yard, "job: argument, state", () -> yard.job(1, 0, 9));
    Check.noIndex(yard, "works: index, argument", () -> yard.works(2, 4));
    Check.badArgument(yard, "works: argument, state", () -> yard.works(1, 4));
    Check.noIndex(yard, "done: index, argument", () -> yard.done(2, 4));
    Check.badArgument(yard, "done: argument, state", () -> yard.done(1, 4));
    Check.noIndex(yard, "power: index, argument", () -> yard.power(2, 21));
    Check.badArgument(yard, "power: argument, state", () -> yard.power(0, 21));
    Check.noIndex(yard, "pipe: index, argument, state", () -> yard.pipe(0, 8, 8, 0));
    Check.badArgument(yard, "pipe: argument, state", () -> yard.pipe(0, 1, 1, 5));
    Check.noIndex(yard, "net: index, argument", () -> yard.net(2, 0));
    Check.badArgument(yard, "net: argument, state", () -> yard.net(0, 0));
    Check.noIndex(yard, "valve: index, state", () -> yard.valve(0, 6));
    Check.noIndex(yard, "engine: index, argument", () -> yard.engine(2, 9));
    Check.noIndex(yard, "speed: index, argument", () -> yard.speed(2, -2));
    Check.noIndex(yard, "bid: index, argument, state", () -> yard.bid(1, 0, 0));
    Check.badArgument(yard, "bid: argument, state", () -> yard.bid(0, 0, 0));
    Check.noIndex(yard, "sale: index, argument", () -> yard.sale(1, 11));
    Check.noIndex(yard, "lot: index, argument", () -> yard.lot(2, 2, 0, 3, 0));
    Check.noIndex(yard, "bunker: index, argument", () -> yard.bunker(2, 0));
    Check.badArgument(yard, "bunker: argument, state", () -> yard.bunker(0, 0));
    Check.noIndex(yard, "stow: index, state", () -> yard.stow(0, 1, 0));
    Check.noIndex(yard, "sail: index, argument, state", () -> yard.sail(0, 2));
    Check.badArgument(yard, "sail: argument, state", () -> yard.sail(0, -1));
    Check.noIndex(yard, "voyage: index, argument", () -> yard.voyage(2, 9));
    Check.noIndex(yard, "ofLot: index, argument", () -> yard.ofLot(1, 4));
    Check.noIndex(yard, "route: index, argument", () -> yard.route(2, 4, true));
    Check.noIndex(yard, "money: index, argument", () -> yard.money(10, 3, 15));
  }

  static void section0FirstExceptionIsThrownWhereAllIsFull() {
    KeelHouse yard = new KeelHouse();
    for (int i = 0; i < 9; i++) {
      int n = i;
      Check.made(() -> yard.sheets(10, 20, 3, 1, 1));
      Check.made(() -> yard.order(0, 1));
      Check.made(() -> yard.buyer(20, 0, 0, 10, 100));
      Check.made(() -> yard.port(n, n, 20));
      Check.made(() -> yard.lot(0, 1, 1, 0, 1));
    }
    Check.badArgument(yard, "sheets: argument, state", () -> yard.sheets(9, 20, 3, 1, 1));
    Check.badArgument(yard, "order: argument, state", () -> yard.order(0, 0));
    Check.badArgument(yard, "buyer: argument, state", () -> yard.buyer(19, 0, 0, 10, 100));
    Check.badArgument(yard, "port: argument, state", () -> yard.port(100, 0, 20));
    Check.noIndex(yard, "lot: index, state", () -> yard.lot(6, 1, 1, 0, 1));
    Check.badArgument(yard, "lot: argument, state", () -> yard.lot(0, 1, 0, 0, 1));
    Check.badArgument(yard, "pass: argument, state", () -> yard.pass(31));
    Check.badState(yard, "sheets: state", () -> yard.sheets(10, 20, 3, 1, 1));
    Check.badState(yard, "order: state", () -> yard.order(0, 1));
    Check.badState(yard, "buyer: state", () -> yard.buyer(20, 0, 0, 10, 100));
    Check.badState(yard, "port: state", () -> yard.port(0, 0, 20));
    Check.badState(yard, "lot: state", () -> yard.lot(0, 1, 1, 0, 1));
  }

  /** Each method that asks for a ship: the first one, the last one, and those beside them. */
  static void section0NoSuchShip() {
    KeelHouse yard = new KeelHouse();
    yard.sheets(10, 20, 6, 1, 1);
    yard.buyer(20, 0, 0, 10, 100);
    yard.port(1, 1, 20);
    yard.port(2, 1, 20);
    yard.lot(0, 1, 1, 0, 1);
    for (int many = 0; many <= 3; many++) {
      for (int ship : many == 1 ? new int[] {-1, 1, Integer.MIN_VALUE, Integer.MAX_VALUE} : new int[] {many}) {
        noShip(yard, ship);
        noShipFurther(yard, ship);
      }
      for (int ship = 0; ship < many; ship++) {
        Check.same("tell(" + ship + ")", ship + " drawn", yard.tell(ship));
      }
      if (many < 3) {
        yard.draw(0, 40, 6, 40);
      }
    }
  }

  private static void noShip(KeelHouse yard, int ship) {
    String s = "(" + ship + ")";
    Check.noIndex(yard, "offset" + s, () -> yard.offset(ship, 0, 0, 0));
    Check.noIndex(yard, "fair" + s, () -> yard.fair(ship));
    Check.noIndex(yard, "hull" + s, () -> yard.hull(ship, 0));
    Check.noIndex(yard, "water" + s, () -> yard.water(ship, 0, 0));
    Check.noIndex(yard, "draught" + s, () -> yard.draught(ship, 0));
    Check.noIndex(yard, "put" + s, () -> yard.put(ship, 1, 0, 0, 0));
    Check.noIndex(yard, "take" + s, () -> yard.take(ship, 0));
    Check.noIndex(yard, "fill" + s, () -> yard.fill(ship, 0));
    Check.noIndex(yard, "bulkheads" + s, () -> yard.bulkheads(ship, 0));
    Check.noIndex(yard, "floats" + s, () -> yard.floats(ship, 0));
    Check.noIndex(yard, "flood" + s, () -> yard.flood(ship, 0, true));
    Check.noIndex(yard, "survives" + s, () -> yard.survives(ship));
    Check.noIndex(yard, "plan" + s, () -> yard.plan(ship, 0, 1, 1, 1));
    Check.noIndex(yard, "limit" + s, () -> yard.limit(ship, 100));
    Check.noIndex(yard, "lighten" + s, () -> yard.lighten(ship));
    Check.noIndex(yard, "strake" + s, () -> yard.strake(ship, 0, 0));
    Check.noIndex(yard, "test" + s, () -> yard.test(ship, 0, true, 0));
    Check.noIndex(yard, "weakest" + s, () -> yard.weakest(ship, true));
    Check.noIndex(yard, "cut" + s, () -> yard.cut(ship, 0, 0, 0));
    Check.noIndex(yard, "cutAll" + s, () -> yard.cutAll(ship, 0));
    Check.noIndex(yard, "scrap" + s, () -> yard.scrap(ship));
    Check.noIndex(yard, "needs" + s, () -> yard.needs(ship, 0));
    Check.noIndex(yard, "lay" + s, () -> yard.lay(ship, 0));
    Check.noIndex(yard, "launch" + s, () -> yard.launch(ship));
    Check.noIndex(yard, "shift" + s, () -> yard.shift(ship, 2));
    Check.noIndex(yard, "lies" + s, () -> yard.lies(ship, 0));
    Check.noIndex(yard, "launchDay" + s, () -> yard.launchDay(ship));
  }

  private static void noShipFurther(KeelHouse yard, int ship) {
    String s = "(" + ship + ")";
    Check.noIndex(yard, "job" + s, () -> yard.job(ship, 0, 0));
    Check.noIndex(yard, "works" + s, () -> yard.works(ship, 0));
    Check.noIndex(yard, "done" + s, () -> yard.done(ship, 0));
    Check.noIndex(yard, "power" + s, () -> yard.power(ship, 1));
    Check.noIndex(yard, "pipe" + s, () -> yard.pipe(ship, 0, 7, 1));
    Check.noIndex(yard, "net" + s, () -> yard.net(ship, 1));
    Check.noIndex(yard, "valve" + s, () -> yard.valve(ship, 0));
    Check.noIndex(yard, "mend" + s, () -> yard.mend(ship));
    Check.noIndex(yard, "trial" + s, () -> yard.trial(ship));
    Check.noIndex(yard, "engine" + s, () -> yard.engine(ship, 0));
    Check.noIndex(yard, "speed" + s, () -> yard.speed(ship, 0));
    Check.noIndex(yard, "bid" + s, () -> yard.bid(0, ship, 1));
    Check.noIndex(yard, "breaks" + s, () -> yard.breaks(ship));
    Check.noIndex(yard, "bestBuyer" + s, () -> yard.bestBuyer(ship));
    Check.noIndex(yard, "bunker" + s, () -> yard.bunker(ship, 1));
    Check.noIndex(yard, "stow" + s, () -> yard.stow(ship, 0, 0));
    Check.noIndex(yard, "unload" + s, () -> yard.unload(ship));
    Check.noIndex(yard, "sail" + s, () -> yard.sail(ship, 0));
    Check.noIndex(yard, "voyage" + s, () -> yard.voyage(ship, 0));
    Check.noIndex(yard, "tell" + s, () -> yard.tell(ship));
    if (ship != -1 && ship != 3) {
      Check.noIndex(yard, "money of " + ship, () -> yard.money(0, ship, 0));
    }
  }
}
