import java.util.EnumSet;

/** Section 8, promises 25 to 27, at their bounds. */
public final class Bounds8SalesTest {
  public static void main(String[] args) throws Exception {
    Bounds.run(Bounds8SalesTest.class);
  }

  private static KeelHouse box() {
    KeelHouse yard = new KeelHouse();
    yard.draw(0, 40, 6, 40);
    return yard;
  }

  static void promise25BuyerLength20To80() {
    Bounds.argument("buyer, length", KeelHouse::new, 20, 80, (yard, length) -> yard.buyer(length, 5, 0, 50, 900));
  }

  static void promise25BuyerSpeed0To12() {
    Bounds.argument("buyer, speed", KeelHouse::new, 0, 12, (yard, speed) -> yard.buyer(40, speed, 0, 50, 900));
  }

  static void promise25BuyerRules0To255() {
    Bounds.argument("buyer, rules", KeelHouse::new, 0, 255, (yard, rules) -> yard.buyer(40, 5, rules, 50, 900));
  }

  static void promise25BuyerDays10To300() {
    Bounds.argument("buyer, days", KeelHouse::new, 10, 300, (yard, days) -> yard.buyer(40, 5, 0, days, 900));
  }

  static void promise25BuyerPrice100To30000() {
    Bounds.argument("buyer, price", KeelHouse::new, 100, 30000, (yard, price) -> yard.buyer(40, 5, 0, 50, price));
  }

  static void promise25BuyerFourAtMost() {
    KeelHouse yard = new KeelHouse();
    for (int buyer = 0; buyer < 4; buyer++) {
      int next = buyer;
      Check.noIndex(yard, "sale(" + next + ", 0)", () -> yard.sale(next, 0));
      Check.same("buyer", buyer, yard.buyer(20 + buyer, 0, 0, 10, 100));
      Check.same("its length", 20 + buyer, yard.sale(buyer, 0));
    }
    Check.badState(yard, "a fifth one", () -> yard.buyer(20, 0, 0, 10, 100));
    Check.noIndex(yard, "sale(4, 0)", () -> yard.sale(4, 0));
  }

  private static KeelHouse withBuyer() {
    KeelHouse yard = box();
    yard.buyer(80, 12, 255, 50, 30000);
    return yard;
  }

  static void promise25BidBuyersThatAreThere() {
    Bounds.index("bid, buyer", Bounds8SalesTest::withBuyer, 0, 0, (yard, buyer) -> yard.bid(buyer, 0, 1));
    KeelHouse yard = withBuyer();
    for (int buyer : new int[] {-1, 1, Integer.MIN_VALUE, Integer.MAX_VALUE}) {
      Check.noIndex(yard, "sale of " + buyer, () -> yard.sale(buyer, 0));
    }
  }

  static void promise26HandOverBuyersThatAreThere() {
    KeelHouse yard = Place.READY.yard();
    yard.bid(0, 0, 100);
    for (int buyer : new int[] {-1, 1, Integer.MIN_VALUE, Integer.MAX_VALUE}) {
      Check.noIndex(yard, "handOver to " + buyer, () -> yard.handOver(buyer));
    }
    Check.same("handOver to 0", 40, yard.handOver(0));
  }

  static void promise25BidPrice1To30000() {
    Bounds.argument("bid", Bounds8SalesTest::withBuyer, 1, 30000, (yard, price) -> yard.bid(0, 0, price));
  }

  static void promise25BidNotIfGone() {
    Bounds.onlyAt("bid", Place.NOT_GONE, yard -> yard.bid(0, 0, 100));
  }

  static void promise25BidForOneThatWaits() {
    KeelHouse yard = Place.DRAWN.yard();
    Yards.addBox(yard);
    yard.buyer(20, 0, 0, 10, 300);
    yard.buyer(20, 0, 0, 10, 300);
    Check.same("bid", true, yard.bid(0, 0, 300));
    Check.badState(yard, "bid for one that was bid for", () -> yard.bid(0, 1, 300));
    Check.badState(yard, "bid with one under contract", () -> yard.bid(1, 0, 300));
    Check.same("bid above the price", false, yard.bid(1, 1, 301));
    Check.badState(yard, "bid for one that is gone", () -> yard.bid(1, 1, 300));
    Check.same("the ship is free still", true, yard.bid(2, 1, 300));
  }

  private static boolean isOurs(int wanted, int price) {
    KeelHouse yard = box();
    yard.buyer(40, 0, 0, 10, wanted);
    return yard.bid(0, 0, price);
  }

  /** The rival of 40 metres is at 800 and 3 * 7. */
  static void promise25BidOfJustThePriceAndOfTheRival() {
    Check.same("bid of 600 with a price of 600", true, isOurs(600, 600));
    Check.same("bid of 601 with a price of 600", false, isOurs(600, 601));
    Check.same("bid of 820 with a rival of 821", true, isOurs(30000, 820));
    Check.same("bid of 821 with a rival of 821", false, isOurs(30000, 821));
    Check.same("bid of 822 with a rival of 821", false, isOurs(30000, 822));
    Check.same("both are just so", true, isOurs(820, 820));
    Check.same("bid of 821 with a price of 821", false, isOurs(821, 821));
  }

  static void promise27SaleWhat0To10() {
    Bounds.argument("sale", Bounds8SalesTest::withBuyer, 0, 10, (yard, what) -> yard.sale(0, what));
  }

  static void promise27SaleRival() {
    KeelHouse yard = new KeelHouse();
    yard.buyer(20, 0, 0, 10, 100);
    yard.buyer(80, 12, 255, 10, 100);
    yard.buyer(50, 5, 129, 10, 100);
    for (int day = 0; day < 17; day++) {
      int sky = 3 * yard.yard(1);
      Check.same("the least", 400 + sky, yard.sale(0, 10));
      Check.same("the most", 1600 + 720 + 240 + sky, yard.sale(1, 10));
      Check.same("between", 1000 + 300 + 60 + sky, yard.sale(2, 10));
      yard.pass(1);
    }
  }

  static void promise27SaleDueIsDayAndSoMany() {
    KeelHouse yard = new KeelHouse();
    yard.buyer(20, 0, 0, 10, 100);
    yard.pass(30);
    yard.buyer(20, 0, 0, 300, 100);
    Check.same("due", 10, yard.sale(0, 3));
    Check.same("due", 330, yard.sale(1, 3));
  }

  /** Of 4 nothing is a fifth, of 5 one is; two fifths of 2 are nothing, of 3 one is. */
  static void section8PaymentsOfSmallPrices() {
    for (int price : new int[] {1, 2, 3, 4, 5, 7, 9, 10, 99}) {
      KeelHouse yard = Place.READY.yard();
      int paid = yard.money(3, 0, 14);
      yard.bid(0, 0, price);
      Check.same("at once of " + price, paid + price / 5 + price * 2 / 5, yard.money(3, 0, 14));
      Check.same("sale(0, 9)", price / 5 + price * 2 / 5, yard.sale(0, 9));
      Check.same("the rest", price - price / 5 - price * 2 / 5, yard.handOver(0));
      Check.same("all", paid + price, yard.money(3, 0, 14));
    }
    KeelHouse slip = Place.SLIP.yard();
    slip.bid(0, 0, 99);
    Check.same("on the slip a fifth alone", 19, slip.sale(0, 9));
  }

  static void section8PaidAtOnceIfAfloatOrReady() {
    EnumSet<Place> launched = EnumSet.range(Place.AFLOAT, Place.PORT);
    for (Place place : EnumSet.complementOf(EnumSet.of(Place.LOST, Place.SOLD))) {
      KeelHouse yard = place.yard();
      yard.bid(0, 0, 100);
      Check.same("paid at " + place, launched.contains(place) ? 60 : 20, yard.sale(0, 9));
    }
  }

  private static KeelHouse fined(int price) {
    KeelHouse yard = box();
    yard.buyer(40, 0, 0, 10, 30000);
    yard.bid(0, 0, price);
    return yard;
  }

  static void section8FineOnTheDayBehindDue() {
    KeelHouse yard = fined(500);
    yard.pass(9);
    Check.same("no fine on the day ahead of due", 0, yard.sale(0, 8));
    yard.pass(1);
    Check.same("no fine on the day due", 0, yard.sale(0, 8));
    Check.same("nor is one paid", 0, yard.money(4, 0, 14));
    yard.pass(1);
    Check.same("a fine behind it", 1, yard.sale(0, 8));
    Check.same("of a fiftieth", -10, yard.money(4, 0, 14));
  }

  static void section8FineOfAFiftieth() {
    int[] prices = {1, 49, 50, 99, 100, 101, 149, 799, 800};
    int[] fines = {0, 0, 1, 1, 2, 2, 2, 15, 16};
    for (int i = 0; i < prices.length; i++) {
      KeelHouse yard = fined(prices[i]);
      yard.pass(11);
      Check.same("a fine of " + prices[i], -fines[i], yard.money(4, 0, 14));
      Check.same("it counts", 1, yard.sale(0, 8));
    }
  }

  static void section8The24thFineAndThe25th() {
    KeelHouse yard = fined(500);
    yard.pass(10);
    yard.pass(24);
    Check.same("24 fines", 24, yard.sale(0, 8));
    Check.same("the contract goes on", 1, yard.sale(0, 5));
    Check.same("what is paid", 100, yard.sale(0, 9));
    yard.buyer(20, 0, 0, 10, 300);
    Check.badState(yard, "the ship is not free", () -> yard.bid(1, 0, 100));
    yard.pass(1);
    Check.same("25 fines", 25, yard.sale(0, 8));
    Check.same("it is void", 3, yard.sale(0, 5));
    Check.same("nothing is paid", 0, yard.sale(0, 9));
    Check.same("it was paid back", 0, yard.money(3, 0, 14));
    Check.same("fines stay", -250, yard.money(4, 0, 14));
    Check.badState(yard, "handOver of a void one", () -> yard.handOver(0));
    Check.same("the ship is free", true, yard.bid(1, 0, 100));
    yard.pass(3);
    Check.same("no more fines of the void one", 25, yard.sale(0, 8));
    Check.same("nor are any paid", -250, yard.money(4, 0, 14));
  }

  /** A ship that is lost makes it void the same day, without a fine, also behind its due day. */
  static void section8VoidAsTheShipIsLost() {
    KeelHouse lost = Yards.withoutStrakes();
    lost.teams(0, 6);
    lost.teams(1, 6);
    lost.pass(20);
    lost.buyer(20, 0, 0, 10, 300);
    lost.bid(0, 0, 100);
    lost.put(0, 400, 2, 0, 160);
    while (lost.yard(0) < 32 || lost.yard(1) >= 13 || lost.yard(2) < 40) {
      lost.pass(1);
    }
    int fines = lost.sale(0, 8);
    Check.same("some fines", true, fines > 0 && fines < 24);
    Check.same("launch", -3, lost.launch(0));
    Check.same("it goes on till the day ends", 1, lost.sale(0, 5));
    Check.inVain(lost, "handOver of a lost one", -1, () -> lost.handOver(0));
    lost.pass(1);
    Check.same("then it is void", 3, lost.sale(0, 5));
    Check.same("without one more fine", fines, lost.sale(0, 8));
    Check.same("paid back", 0, lost.money(3, 0, 14));
  }

  static void promise26HandOverWithoutAContract() {
    KeelHouse yard = Place.READY.yard();
    Check.badState(yard, "handOver to one that waits", () -> yard.handOver(0));
    yard.bid(0, 0, 30000);
    Check.badState(yard, "handOver to one that is gone", () -> yard.handOver(0));
    KeelHouse sold = Place.SOLD.yard();
    Check.badState(sold, "handOver once more", () -> sold.handOver(1));
  }

  static void promise26HandOverOnlyReadyAtABerth() {
    for (Place place : Place.NOT_GONE) {
      KeelHouse yard = place.yard();
      yard.bid(0, 0, 100);
      if (place == Place.READY) {
        Check.same("handOver", 40, yard.handOver(0));
        Check.same("tell", "0 sold", yard.tell(0));
      } else {
        Check.inVain(yard, "handOver at " + place, -1, () -> yard.handOver(0));
      }
    }
    for (int berth = 4; berth <= 5; berth++) {
      KeelHouse yard = Place.READY.yard();
      Yards.calm(yard, 46);
      yard.shift(0, berth);
      yard.bid(0, 0, 100);
      Check.same("handOver at the berth " + berth, 40, yard.handOver(0));
      Check.same("its berth is free", -1, yard.spot(berth, 0));
    }
  }

  private static int handedOver(int length, int speed, int width, int tonnes) {
    KeelHouse yard = Place.READY.yard();
    yard.net(0, 1);
    for (int pipe = 0; pipe < 6; pipe++) {
      yard.valve(0, pipe);
    }
    yard.pipe(0, 0, 7, width);
    yard.put(0, tonnes, 2, 0, 0);
    yard.buyer(length, speed, 0, 50, 300);
    yard.bid(1, 0, 100);
    return yard.handOver(1);
  }

  /** 39 wide with 272 tonnes it goes just 6.0, 44 wide with 515 a step less. */
  static void promise26HandOverWithJustTheLengthAndSpeed() {
    Check.same("40 is wished", 40, handedOver(40, 0, 39, 272));
    Check.same("41 is wished", -1, handedOver(41, 0, 39, 272));
    Check.same("6 is wished of one that goes 6.0", 40, handedOver(20, 6, 39, 272));
    Check.same("7 is wished of one that goes 6.0", -1, handedOver(20, 7, 39, 272));
    Check.same("6 is wished of one that goes a bit less", -1, handedOver(20, 6, 44, 515));
    Check.same("5 is wished of one that goes a bit less", 40, handedOver(20, 5, 44, 515));
  }

  /** Each rule for itself: the ship breaks one, and that is of the set, or is not. */
  static void promise26HandOverByEachRule() {
    for (int rule = 0; rule < 8; rule++) {
      KeelHouse yard = Place.READY.yard();
      yard.limit(0, 20);
      yard.net(0, 1);
      yard.put(0, 60, 5, 0, 0);
      int broken = yard.breaks(0);
      Check.same("it breaks some", true, broken != 0 && broken != 255);
      yard.buyer(40, 0, 1 << rule, 300, 300);
      yard.bid(1, 0, 100);
      Check.same("handOver by the rule " + rule + " of " + broken, (broken >> rule & 1) == 1 ? -1 : 40,
          yard.handOver(1));
    }
  }

  private static int broken(KeelHouse yard, int rule) {
    return yard.breaks(0) >> rule & 1;
  }

  static void promise26BreaksRule0AboveThreeQuartersOfDepth() {
    KeelHouse yard = box();
    yard.put(0, 900, 2, 0, 0);
    yard.put(0, 900, 3, 0, 0);
    Check.same("t", 4.5, yard.floats(0, 4));
    Check.same("just 3 / 4", 0, broken(yard, 0));
    yard.put(0, 1, 3, 0, 0);
    Check.same("a tonne more", 1, broken(yard, 0));
  }

  static void promise26BreaksRule1WithAGmOfAQuarter() {
    KeelHouse less = box();
    less.put(0, 825, 2, 0, 36);
    less.put(0, 360, 3, 0, 24);
    Check.within("gm", 0.2498, 0.24999, less.floats(0, 5));
    Check.same("a bit less", 1, broken(less, 1));
    KeelHouse more = box();
    more.put(0, 900, 2, 0, 37);
    more.put(0, 840, 3, 0, 24);
    Check.within("gm", 0.25, 0.2502, more.floats(0, 5));
    Check.same("a bit more", 0, broken(more, 1));
  }

  static void promise26BreaksRule1WithAListOf2And3() {
    KeelHouse two = box();
    two.put(0, 320, 2, 8, 20);
    two.put(0, 620, 3, 0, 24);
    Check.same("list", 2.0, two.floats(0, 6));
    Check.same("with 2", 0, broken(two, 1));
    KeelHouse three = box();
    three.put(0, 220, 2, 15, 20);
    three.put(0, 260, 3, 0, 24);
    Check.same("list", 3.0, three.floats(0, 6));
    Check.same("with 3", 1, broken(three, 1));
  }

  /** With that load the greatest stress of all three seas is just 250. */
  static void promise26BreaksRule2AboveTheLimit() {
    KeelHouse yard = Yards.ready();
    yard.put(0, 94, 1, 0, 0);
    yard.put(0, 45, 3, 0, 0);
    Check.same("in still water", 250.0, yard.test(0, 0, false, 18));
    yard.limit(0, 250);
    Check.same("with a limit of 250", 0, broken(yard, 2));
    yard.limit(0, 249);
    Check.same("with a limit of 249", 1, broken(yard, 2));
  }

  /** A hull that still water may strain more than waves do. */
  private static KeelHouse uneven() {
    KeelHouse drawn = new KeelHouse();
    drawn.draw(1, 28, 10, 79);
    drawn.offset(0, 4, 1, 47);
    drawn.offset(0, 3, 2, 31);
    drawn.offset(0, 6, 0, 19);
    drawn.power(0, 10);
    drawn.net(0, 40);
    return Yards.ready(drawn);
  }

  /** Each of the seas may be the one that strains it most. */
  static void promise26BreaksRule2ByEachSea() {
    boolean[] isSeen = new boolean[3];
    for (KeelHouse yard : new KeelHouse[] {Yards.ready(), uneven()}) {
      for (int at = 0; at < 120; at++) {
        yard.put(0, at % 20 * 20 + 20, at / 20, 0, 0);
        ruleOfStress(yard, isSeen);
        yard.take(0, 0);
      }
    }
    for (int sea = 0; sea < 3; sea++) {
      Check.same("the sea " + sea + " strained most", true, isSeen[sea]);
    }
  }

  private static void ruleOfStress(KeelHouse yard, boolean[] isSeen) {
    double[] stress = {yard.test(0, 0, false, 18), yard.test(0, 1, false, 18), yard.test(0, 2, false, 18)};
    for (int sea = 0; sea < 3; sea++) {
      double other = Math.max(stress[(sea + 1) % 3], stress[(sea + 2) % 3]);
      int limit = (int) stress[sea];
      if (limit >= other && limit >= 20 && limit < 400 && limit < stress[sea]) {
        isSeen[sea] = true;
        yard.limit(0, limit);
        Check.same("with a limit just below", 1, broken(yard, 2));
        yard.limit(0, limit + 1);
        Check.same("with a limit just above", 0, broken(yard, 2));
      }
    }
  }

  static void promise26BreaksRule3With2And3Pairs() {
    int[] sets = {31 - 2, 31 - 2 - 8, 31 - 1, 0};
    int[] pairs = {3, 2, 4, 0};
    for (int i = 0; i < sets.length; i++) {
      KeelHouse yard = box();
      yard.bulkheads(0, sets[i]);
      yard.put(0, 900, 2, 0, 0);
      yard.put(0, 500, 3, 0, 0);
      Check.same("survives", pairs[i], yard.survives(0));
      Check.same("with " + pairs[i] + " pairs", pairs[i] >= 3 ? 0 : 1, broken(yard, 3));
    }
  }

  static void promise26BreaksRule4BelowASpeedOf6() {
    int[][] cases = {{39, 272}, {44, 515}};
    for (int i = 0; i < 2; i++) {
      KeelHouse yard = Yards.afloat();
      Yards.buildOn(yard, 0, 23);
      yard.net(0, 1);
      for (int pipe = 0; pipe < 6; pipe++) {
        yard.valve(0, pipe);
      }
      yard.pipe(0, 0, 7, cases[i][0]);
      yard.put(0, cases[i][1], 2, 0, 0);
      Check.same("speed", i == 0 ? 6.0 : 6.0 - 32.0 / 262144, yard.speed(0, -1));
      Check.same("rule 4", i, broken(yard, 4));
    }
  }

  private static int brokenFlow(int... widths) {
    KeelHouse yard = box();
    for (int width : widths) {
      yard.pipe(0, 0, 7, width);
    }
    return broken(yard, 5);
  }

  static void promise26BreaksRule5BelowHalfTheFlow() {
    Check.same("no pipe", 1, brokenFlow());
    Check.same("one pipe", 1, brokenFlow(9));
    Check.same("1 of 2", 0, brokenFlow(1, 1));
    Check.same("1 of 3", 1, brokenFlow(1, 2));
    Check.same("9 of 18", 0, brokenFlow(9, 9));
    Check.same("9 of 19", 1, brokenFlow(9, 10));
    Check.same("10 of 20", 0, brokenFlow(10, 9, 1));
    Check.same("99 of 198", 0, brokenFlow(99, 99));
    KeelHouse shut = box();
    shut.pipe(0, 0, 7, 9);
    shut.pipe(0, 0, 7, 9);
    shut.valve(0, 0);
    shut.valve(0, 1);
    Check.same("a flow of 0", 1, broken(shut, 5));
  }

  /** A trim that is as near to a fortieth of its length as can be, on both sides. */
  static void promise26BreaksRule6AboveAFortiethOfLength() {
    int[] tonnes = {410, 710};
    for (int i = 0; i < 2; i++) {
      for (int end = 0; end <= 5; end += 5) {
        KeelHouse yard = box();
        yard.put(0, tonnes[i], 2, 0, 0);
        yard.put(0, tonnes[i], 3, 0, 0);
        yard.put(0, 80, end, 0, 0);
        double trim = Math.abs(yard.floats(0, 7));
        Check.within("trim", 1.0 - 1e-12, 1.0 + 1e-12, trim);
        Check.same("rule 6 with " + trim, trim <= 1.0 ? 0 : 1, broken(yard, 6));
        Check.same("of 410 it is less", true, end == 0 || i == (trim <= 1.0 ? 0 : 1));
      }
    }
    KeelHouse even = box();
    even.put(0, 100, 2, 0, 0);
    even.put(0, 100, 3, 0, 0);
    Check.same("an even keel", 0, broken(even, 6));
    even.put(0, 100, 0, 0, 0);
    Check.same("by the stern", 1, broken(even, 6));
  }

  static void promise26BreaksRule7WithAFoulOf8And9() {
    KeelHouse yard = Place.AFLOAT.yard();
    while (yard.lies(0, 1) < 9) {
      Check.same("with " + yard.lies(0, 1), 0, broken(yard, 7));
      yard.pass(1);
    }
    Check.same("with 9", 1, broken(yard, 7));
  }

  static void promise26BreaksAllWithoutADraught() {
    KeelHouse yard = box();
    yard.net(0, 9);
    for (int i = 0; i < 3; i++) {
      yard.put(0, 900, 2, 0, 0);
    }
    Check.same("0 to 6", 127, yard.breaks(0));
    KeelHouse foul = Place.AFLOAT.yard();
    while (foul.lies(0, 1) < 9) {
      foul.pass(1);
    }
    for (int i = 0; i < 3; i++) {
      foul.put(0, 900, 2, 0, 0);
    }
    Check.same("0 to 7", 255, foul.breaks(0));
  }

  /** Price, or rival less 1 (400 and 3 * 7 less 1), whichever is less. */
  static void promise27BestBuyerByWhatIsToBeHad() {
    int[] prices = {419, 420, 421, 422, 30000};
    for (int i = 0; i < prices.length; i++) {
      KeelHouse yard = box();
      yard.buyer(20, 0, 0, 10, prices[i]);
      yard.buyer(20, 0, 0, 10, 420);
      Check.same("of " + prices[i] + " and 420", prices[i] < 420 ? 1 : 0, yard.bestBuyer(0));
      KeelHouse turned = box();
      turned.buyer(20, 0, 0, 10, 420);
      turned.buyer(20, 0, 0, 10, prices[i]);
      Check.same("of 420 and " + prices[i], 0, turned.bestBuyer(0));
    }
    KeelHouse least = box();
    least.buyer(20, 0, 0, 10, 100);
    Check.same("100 alone", 0, least.bestBuyer(0));
  }

  static void promise27BestBuyerWithJustTheLengthSpeedAndRules() {
    KeelHouse yard = box();
    yard.buyer(41, 0, 0, 10, 500);
    Check.same("41 is wished", -1, yard.bestBuyer(0));
    yard.buyer(40, 1, 0, 10, 400);
    Check.same("it has no engine", -1, yard.bestBuyer(0));
    yard.buyer(40, 0, 16, 10, 300);
    Check.same("it breaks the rule 4", -1, yard.bestBuyer(0));
    yard.buyer(40, 0, 0, 10, 200);
    Check.same("40 is wished", 3, yard.bestBuyer(0));
    yard.bid(3, 0, 201);
    Check.same("that is gone", -1, yard.bestBuyer(0));
  }

  static void promise27BestBuyerOfOneThatIsGoneOrUnderContract() {
    for (Place place : Place.values()) {
      KeelHouse yard = place.yard();
      Check.same("bestBuyer at " + place, Place.NOT_GONE.contains(place) ? 0 : -1, yard.bestBuyer(0));
      if (Place.NOT_GONE.contains(place)) {
        yard.buyer(20, 0, 0, 10, 300);
        yard.bid(0, 0, 100);
        Check.same("under contract at " + place, -1, yard.bestBuyer(0));
      }
    }
  }

  /** 144 tonnes at a draught of 1.0 of 24 by 6 metres, 26 eighths up: 0.5 and 3.0 less 3.25. */
  static void promise26BreaksRule1WithAGmOfJustAQuarter() {
    KeelHouse yard = new KeelHouse();
    yard.draw(0, 24, 8, 24);
    yard.put(0, 144, 2, 0, 26);
    Check.same("gm", 0.25, yard.floats(0, 5));
    Check.same("just a quarter", 0, broken(yard, 1));
  }

  /** 450 and 150 tonnes on 60 metres have a trim of just 1.5. */
  static void promise26BreaksRule6WithJustAFortieth() {
    for (int turn = 0; turn <= 1; turn++) {
      KeelHouse yard = new KeelHouse();
      yard.draw(0, 60, 8, 40);
      yard.put(0, 450, turn == 0 ? 3 : 2, 0, 0);
      yard.put(0, 150, turn == 0 ? 4 : 1, 0, 0);
      Check.same("trim", turn == 0 ? 1.5 : -1.5, yard.floats(0, 7));
      Check.same("just a fortieth", 0, broken(yard, 6));
      yard.put(0, 1, turn == 0 ? 5 : 0, 0, 0);
      Check.same("a bit more", 1, broken(yard, 6));
    }
  }

  static void promise26BreaksNoneOrJustSome() {
    KeelHouse yard = Yards.ready();
    yard.limit(0, 400);
    Check.same("none", 0, yard.breaks(0));
    yard.limit(0, 20);
    Check.same("the stress alone", 4, yard.breaks(0));
    yard.limit(0, 400);
    yard.net(0, 10);
    Check.same("the speed alone", 16, yard.breaks(0));
    yard.net(0, 40);
    yard.valve(0, 0);
    yard.valve(0, 4);
    Check.same("the net alone", 32, yard.breaks(0));
  }

  static void promise27SaleHowItStands() {
    KeelHouse yard = Place.READY.yard();
    Yards.addBox(yard);
    for (int buyer = 1; buyer <= 3; buyer++) {
      yard.buyer(20, 0, 0, 10, 300);
    }
    int[] waiting = {20, 0, 0, yard.yard(0) + 10, 300, 0, -1, 0, 0, 0, 400 + 3 * yard.yard(1)};
    for (int what = 0; what <= 10; what++) {
      Check.same("sale(1, " + what + ") as it waits", waiting[what], yard.sale(1, what));
    }
    yard.bid(1, 0, 301);
    Check.same("gone to a rival", 4, yard.sale(1, 5));
    Check.same("without a ship", -1, yard.sale(1, 6));
    Check.same("without a price", 0, yard.sale(1, 7));
    yard.bid(2, 0, 300);
    Check.same("a contract goes on", 1, yard.sale(2, 5));
    Check.same("its ship", 0, yard.sale(2, 6));
    Check.same("our price", 300, yard.sale(2, 7));
    yard.handOver(2);
    Check.same("handed over", 2, yard.sale(2, 5));
    Check.same("all is paid", 300, yard.sale(2, 9));
    yard.bid(3, 1, 50);
    yard.pass(30);
    yard.pass(5);
    Check.same("void", 3, yard.sale(3, 5));
    Check.same("its ship still", 1, yard.sale(3, 6));
    Check.same("our price still", 50, yard.sale(3, 7));
    Check.same("nothing is paid", 0, yard.sale(3, 9));
    Check.same("handed over still", 2, yard.sale(2, 5));
  }

  static void section8TwoFifthsAsItIsLaunched() {
    for (int price : new int[] {1, 2, 3, 4, 99, 774}) {
      KeelHouse yard = Yards.built();
      yard.buyer(40, 0, 0, 300, 1000);
      yard.bid(0, 0, price);
      Check.same("a fifth of " + price, price / 5, yard.sale(0, 9));
      Yards.launch(yard, 0);
      Check.same("launched", 2, yard.hull(0, 3));
      Check.same("and two of " + price, price / 5 + price * 2 / 5, yard.sale(0, 9));
      Check.same("booked", price / 5 + price * 2 / 5, yard.money(3, 0, 14));
    }
  }

  /** With one ship and four buyers: it is the last one whose contract goes on. */
  static void section8ContractOfTheLastBuyer() {
    KeelHouse yard = Yards.built();
    for (int buyer = 0; buyer < 4; buyer++) {
      yard.buyer(40, 0, 0, 300, 1000);
    }
    Check.same("bid", true, yard.bid(3, 0, 500));
    for (int buyer = 0; buyer < 4; buyer++) {
      int b = buyer;
      Check.badState(yard, "bid for " + b, () -> yard.bid(b, 0, 400));
    }
    Check.same("it is under contract", -1, yard.bestBuyer(0));
    Yards.launch(yard, 0);
    Check.same("a fifth, and two as it was launched", 100 + 200, yard.sale(3, 9));
  }
}
