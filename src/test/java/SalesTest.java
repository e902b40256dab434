/** Promises 25 to 27: buyer, bid, handOver, breaks, sale, bestBuyer. */
public final class SalesTest {
  public static void main(String[] args) {
    buyers();
    buyersRefuse();
    rivals();
    bidWon();
    bidLost();
    bidsRefuse();
    payments();
    fines();
    lostUnderContract();
    handedOver();
    notHandedOver();
    ruleOfDraught();
    ruleOfStability();
    ruleOfStrength();
    ruleOfFlooding();
    rulesOfEngine();
    rulesOfTrimAndFoul();
    bestBuyers();
    Check.end();
  }

  private static void buyers() {
    KeelHouse yard = new KeelHouse();
    yard.pass(3);
    Check.same("buyer", 0, yard.buyer(20, 0, 0, 10, 100));
    Check.same("buyer", 1, yard.buyer(80, 12, 255, 300, 30000));
    int[][] due = {{20, 0, 0, 13, 100, 0, -1, 0, 0, 0, 400 + 24}, {80, 12, 255, 303, 30000, 0, -1, 0, 0, 0,
        1600 + 720 + 240 + 24}};
    for (int buyer = 0; buyer < 2; buyer++) {
      for (int what = 0; what <= 10; what++) {
        Check.same("sale(" + buyer + ", " + what + ")", due[buyer][what], yard.sale(buyer, what));
      }
    }
    yard.buyer(20, 0, 0, 10, 100);
    yard.buyer(20, 0, 0, 10, 100);
    Check.badState(yard, "a fifth buyer", () -> yard.buyer(20, 0, 0, 10, 100));
    Check.badArgument(yard, "a fifth buyer of 19", () -> yard.buyer(19, 0, 0, 10, 100));
    Check.badArgument(yard, "sale(0, 11)", () -> yard.sale(0, 11));
    Check.badArgument(yard, "sale(0, -1)", () -> yard.sale(0, -1));
    Check.noIndex(yard, "sale(4, 11)", () -> yard.sale(4, 11));
    Check.noIndex(yard, "sale(-1, 0)", () -> yard.sale(-1, 0));
  }

  private static void buyersRefuse() {
    KeelHouse yard = new KeelHouse();
    int[][] wrong = {
      {19, 0, 0, 10, 100}, {81, 0, 0, 10, 100}, {20, -1, 0, 10, 100}, {20, 13, 0, 10, 100}, {20, 0, -1, 10, 100},
      {20, 0, 256, 10, 100}, {20, 0, 0, 9, 100}, {20, 0, 0, 301, 100}, {20, 0, 0, 10, 99}, {20, 0, 0, 10, 30001}};
    for (int[] w : wrong) {
      Check.badArgument(yard, "buyer " + java.util.Arrays.toString(w),
          () -> yard.buyer(w[0], w[1], w[2], w[3], w[4]));
    }
  }

  private static void rivals() {
    KeelHouse yard = new KeelHouse();
    yard.buyer(40, 3, 0x51, 10, 1000);
    for (int i = 0; i < 17; i++) {
      Check.same("rival", 800 + 180 + 90 + 3 * yard.yard(1), yard.sale(0, 10));
      yard.pass(1);
    }
  }

  private static void bidWon() {
    KeelHouse yard = Yards.drawn();
    yard.buyer(40, 0, 0, 10, 1000);
    Check.same("bid 1 below the rival", true, yard.bid(0, 0, 820));
    int[] due = {40, 0, 0, 10, 1000, 1, 0, 820, 0, 164, 821};
    for (int what = 0; what <= 10; what++) {
      Check.same("sale(0, " + what + ")", due[what], yard.sale(0, what));
    }
    Check.same("a fifth is paid", 5164, yard.cash());
    Check.same("for its ship", 164, yard.money(3, 0, 0));
    KeelHouse poor = Yards.drawn();
    poor.buyer(40, 0, 0, 10, 600);
    Check.same("bid of the price", true, poor.bid(0, 0, 600));
  }

  private static void bidLost() {
    KeelHouse yard = Yards.drawn();
    yard.buyer(40, 0, 0, 10, 1000);
    yard.buyer(40, 0, 0, 10, 600);
    Check.same("bid as the rival", false, yard.bid(0, 0, 821));
    Check.same("gone", 4, yard.sale(0, 5));
    Check.same("no ship", -1, yard.sale(0, 6));
    Check.same("no price", 0, yard.sale(0, 7));
    Check.same("bid above the price", false, yard.bid(1, 0, 601));
    Check.same("gone", 4, yard.sale(1, 5));
    Check.same("nothing is paid", 5000, yard.cash());
    Check.badState(yard, "bid for one that is gone", () -> yard.bid(0, 0, 1));
    Check.badState(yard, "handOver to one that is gone", () -> yard.handOver(0));
  }

  private static void bidsRefuse() {
    KeelHouse yard = Yards.drawn();
    Yards.addBox(yard);
    for (int i = 0; i < 3; i++) {
      yard.buyer(40, 0, 0, 10, 1000);
    }
    Check.noIndex(yard, "bid for 3", () -> yard.bid(3, 0, 0));
    Check.noIndex(yard, "bid for -1", () -> yard.bid(-1, 0, 0));
    Check.noIndex(yard, "bid with 2", () -> yard.bid(0, 2, 0));
    Check.badArgument(yard, "bid of 0", () -> yard.bid(0, 0, 0));
    Check.badArgument(yard, "bid of 30001", () -> yard.bid(0, 0, 30001));
    Check.badState(yard, "handOver without a contract", () -> yard.handOver(0));
    Check.noIndex(yard, "handOver(3)", () -> yard.handOver(3));
    Check.noIndex(yard, "handOver(-1)", () -> yard.handOver(-1));
    yard.bid(0, 0, 500);
    Check.badState(yard, "bid with a ship under contract", () -> yard.bid(1, 0, 500));
    Check.badState(yard, "bid for one that was bid for", () -> yard.bid(0, 1, 500));
    Check.badArgument(yard, "bid of 0 for one that was bid for", () -> yard.bid(0, 1, 0));
    Check.same("bid with another one", true, yard.bid(1, 1, 500));
    KeelHouse lost = Yards.lost();
    lost.buyer(20, 0, 0, 10, 1000);
    Check.badState(lost, "bid with a lost one", () -> lost.bid(0, 0, 100));
  }

  private static void payments() {
    KeelHouse yard = Yards.built();
    yard.buyer(40, 0, 0, 300, 1000);
    yard.bid(0, 0, 774);
    Check.same("a fifth", 154, yard.sale(0, 9));
    Yards.launch(yard, 0);
    Check.same("two fifths as it is launched", 154 + 309, yard.sale(0, 9));
    Check.same("booked", 463, yard.money(3, 0, 14));
    Check.same("handOver of one that is not ready", -1, yard.handOver(0));
    Yards.buildOn(yard, 0, 23);
    Yards.tryOut(yard, 0);
    Check.same("handOver", 774 - 463, yard.handOver(0));
    Check.same("all is paid", 774, yard.sale(0, 9));
    Check.same("booked", 774, yard.money(3, 0, 14));
    KeelHouse afloat = Yards.afloat();
    afloat.buyer(40, 0, 0, 300, 1000);
    afloat.bid(0, 0, 604);
    Check.same("a fifth and two of one that is afloat", 120 + 241, afloat.sale(0, 9));
    KeelHouse ready = Yards.ready();
    ready.buyer(40, 0, 0, 300, 1000);
    ready.bid(0, 0, 604);
    Check.same("and of one that is ready", 361, ready.sale(0, 9));
    Check.same("the rest", 243, ready.handOver(0));
  }

  private static void fines() {
    KeelHouse yard = Yards.drawn();
    yard.buyer(40, 0, 0, 10, 1000);
    yard.bid(0, 0, 750);
    yard.pass(10);
    Check.same("no fine on the due day", 0, yard.sale(0, 8));
    yard.pass(1);
    Check.same("a fine", 1, yard.sale(0, 8));
    Check.same("a fiftieth", -15, yard.money(4, 0, 14));
    yard.pass(23);
    Check.same("24 fines", 24, yard.sale(0, 8));
    Check.same("it goes on", 1, yard.sale(0, 5));
    Check.same("paid so far", 150, yard.sale(0, 9));
    yard.pass(1);
    Check.same("25 fines", 25, yard.sale(0, 8));
    Check.same("void", 3, yard.sale(0, 5));
    Check.same("paid back", 0, yard.sale(0, 9));
    Check.same("the fines stay", 5000 - 25 * 15, yard.cash());
    Check.same("contracts are even", 0, yard.money(3, 0, 14));
    Check.same("the ship is told still", 0, yard.sale(0, 6));
    Check.same("our price, too", 750, yard.sale(0, 7));
    Check.badState(yard, "handOver of a void one", () -> yard.handOver(0));
    yard.pass(5);
    Check.same("no more fines", 25, yard.sale(0, 8));
    yard.buyer(40, 0, 0, 10, 1000);
    Check.badState(yard, "bid for a void one", () -> yard.bid(0, 0, 1));
    Check.same("the ship is free for others", true, yard.bid(1, 0, 20));
    yard.pass(11);
    Check.same("a fine of nothing counts, too", 1, yard.sale(1, 8));
  }

  private static void lostUnderContract() {
    KeelHouse yard = Yards.built();
    yard.buyer(40, 0, 0, 300, 1000);
    yard.bid(0, 0, 600);
    yard.put(0, 400, 2, 0, 160);
    int got = -1;
    while (got == -1) {
      yard.pass(1);
      got = yard.launch(0);
    }
    Check.same("lost", -3, got);
    Check.same("it was not launched: a fifth alone is paid", 120, yard.sale(0, 9));
    Check.same("handOver of a lost one", -1, yard.handOver(0));
    yard.pass(1);
    Check.same("void as the day ends", 3, yard.sale(0, 5));
    Check.same("paid back", 0, yard.money(3, 3, 14));
    Check.same("no fine", 0, yard.sale(0, 8));
  }

  private static void handedOver() {
    KeelHouse yard = Yards.ready();
    yard.limit(0, 200);
    Check.same("breaks", 0, yard.breaks(0));
    yard.buyer(40, 6, 255, 300, 2000);
    yard.bid(0, 0, 1000);
    Check.same("handOver", 400, yard.handOver(0));
    Check.same("how it stands", 2, yard.sale(0, 5));
    Check.same("tell", "0 sold", yard.tell(0));
    Check.same("its berth is free", -1, yard.spot(3, 0));
    Check.same("it is at no spot", -1, yard.lies(0, 0));
    Check.badState(yard, "handOver once more", () -> yard.handOver(0));
    yard.buyer(20, 0, 0, 300, 2000);
    Check.badState(yard, "bid with a sold one", () -> yard.bid(1, 0, 100));
    Check.same("bestBuyer of a sold one", -1, yard.bestBuyer(0));
    Check.badState(yard, "put into a sold one", () -> yard.put(0, 1, 0, 0, 0));
    Check.badState(yard, "mend of a sold one", () -> yard.mend(0));
    yard.pass(30);
    Check.same("no spot costs for it any more", yard.money(2, 0, 14), moneyBehind(yard));
  }

  private static int moneyBehind(KeelHouse yard) {
    yard.pass(5);
    return yard.money(2, 0, 14);
  }

  private static KeelHouse contracted(int length, int speed, int rules) {
    KeelHouse yard = Yards.ready();
    yard.limit(0, 200);
    yard.buyer(length, speed, rules, 300, 2000);
    yard.bid(0, 0, 400);
    return yard;
  }

  private static void refusesHandOver(String why, KeelHouse yard) {
    long before = yard.digest();
    Check.same("handOver, " + why, -1, yard.handOver(0));
    Check.same("nothing is done, " + why, before, yard.digest());
  }

  private static void notHandedOver() {
    refusesHandOver("41 of length is wished", contracted(41, 0, 0));
    Check.same("handOver, 40 of length", true, contracted(40, 0, 0).handOver(0) > 0);
    KeelHouse fast = contracted(40, 7, 0);
    refusesHandOver("7 of speed is wished, 6.9 it has", fast);
    KeelHouse dock = contracted(40, 0, 0);
    while (dock.yard(1) >= 13 || dock.yard(2) < 45) {
      dock.pass(1);
    }
    dock.shift(0, 2);
    refusesHandOver("it is in the dock", dock);
    KeelHouse weak = contracted(40, 0, 4);
    weak.limit(0, 100);
    refusesHandOver("it breaks a rule of the set", weak);
    KeelHouse other = contracted(40, 0, 255 - 4);
    other.limit(0, 100);
    Check.same("handOver, it breaks another rule alone", true, other.handOver(0) > 0);
    KeelHouse away = contracted(40, 0, 0);
    away.port(0, 20, 100);
    away.sail(0, 0);
    refusesHandOver("it is at sea", away);
  }

  private static boolean isBroken(KeelHouse yard, int rule) {
    return (yard.breaks(0) >> rule & 1) == 1;
  }

  private static void ruleOfDraught() {
    KeelHouse yard = Yards.drawn();
    yard.put(0, 900, 2, 0, 0);
    yard.put(0, 900, 3, 0, 0);
    Check.same("t", 4.5, yard.floats(0, 4));
    Check.same("rule 0 at 3 / 4 of the depth", false, isBroken(yard, 0));
    yard.put(0, 1, 2, 0, 0);
    Check.same("rule 0 above it", true, isBroken(yard, 0));
    yard.put(0, 900, 2, 0, 0);
    Check.same("without a draught", 127, yard.breaks(0));
    Check.noIndex(yard, "breaks(1)", () -> yard.breaks(1));
    Check.noIndex(yard, "breaks(-1)", () -> yard.breaks(-1));
  }

  private static void ruleOfStability() {
    int seen = 0;
    for (int up = 0; up <= 160; up += 4) {
      for (int side = 0; side <= 24; side += 4) {
        KeelHouse yard = new KeelHouse();
        yard.draw(0, 40, 6, 40);
        yard.put(0, 800, 2, side, up);
        boolean isLittle = yard.floats(0, 5) < 0.25;
        boolean isMuch = yard.floats(0, 6) > 2.0;
        seen |= isLittle ? 1 : isMuch ? 2 : 4;
        Check.same("rule 1 with " + up + ", " + side, isLittle || isMuch, isBroken(yard, 1));
      }
    }
    Check.same("all of these were seen", 7, seen);
  }

  private static void ruleOfStrength() {
    KeelHouse yard = Yards.ready();
    double most = 0.0;
    for (int sea = 0; sea < 3; sea++) {
      most = Math.max(most, yard.test(0, sea, false, 18));
    }
    for (int limit = 20; limit <= 400; limit += 1) {
      yard.limit(0, limit);
      if (limit % 20 == 0 || Math.abs(limit - most) < 2) {
        Check.same("rule 2 with the limit " + limit, most > limit, isBroken(yard, 2));
      }
    }
  }

  private static void ruleOfFlooding() {
    KeelHouse yard = Yards.drawn();
    yard.put(0, 600, 2, 0, 0);
    yard.put(0, 500, 3, 0, 0);
    yard.bulkheads(0, 10);
    Check.same("survives", 3, yard.survives(0));
    Check.same("rule 3 with 3", false, isBroken(yard, 3));
    yard.bulkheads(0, 2);
    Check.same("survives", 1, yard.survives(0));
    Check.same("rule 3 with 1", true, isBroken(yard, 3));
  }

  private static void rulesOfEngine() {
    KeelHouse yard = Yards.ready();
    for (int width = 1; width <= 60; width += 1) {
      yard.net(0, width);
      Check.same("rule 4 with " + yard.speed(0, -1), yard.speed(0, -1) < 6.0, isBroken(yard, 4));
    }
    Check.same("rule 5 with one of two alike", false, isBroken(yard, 5));
    yard.pipe(0, 0, 3, 1);
    yard.pipe(0, 3, 7, 1);
    Check.same("flow", 121, yard.engine(0, 2));
    Check.same("least", 61, yard.engine(0, 8));
    Check.same("rule 5 with 61 of 121", false, isBroken(yard, 5));
    yard.valve(0, 4);
    yard.valve(0, 5);
    yard.pipe(0, 0, 1, 2);
    yard.pipe(0, 1, 7, 2);
    Check.same("flow", 123, yard.engine(0, 2));
    Check.same("least", 63, yard.engine(0, 8));
    Check.same("rule 5 with 63 of 123", false, isBroken(yard, 5));
    yard.net(0, 60);
    yard.pipe(0, 1, 7, 30);
    yard.pipe(0, 0, 1, 30);
    yard.valve(0, 3);
    yard.valve(0, 4);
    Check.same("flow", 90, yard.engine(0, 2));
    Check.same("least", 30, yard.engine(0, 8));
    Check.same("rule 5 with 30 of 90", true, isBroken(yard, 5));
    yard.net(0, 60);
    for (int pipe = 0; pipe < 4; pipe += 2) {
      yard.valve(0, pipe);
    }
    Check.same("rule 5 without flow", true, isBroken(yard, 5));
  }

  private static void rulesOfTrimAndFoul() {
    boolean isSeen = false;
    for (int tonnes = 1; tonnes <= 200; tonnes += 3) {
      KeelHouse yard = Yards.drawn();
      yard.put(0, 400, 2, 0, 0);
      yard.put(0, 400, 3, 0, 0);
      yard.put(0, tonnes, tonnes % 2 * 5, 0, 0);
      boolean isMuch = Math.abs(yard.floats(0, 7)) > 1.0;
      isSeen |= isMuch;
      Check.same("rule 6 with " + yard.floats(0, 7), isMuch, isBroken(yard, 6));
    }
    Check.same("much trim was seen", true, isSeen);
    KeelHouse yard = Yards.afloat();
    while (yard.lies(0, 1) < 8) {
      yard.pass(1);
    }
    Check.same("rule 7 with 8", false, isBroken(yard, 7));
    while (yard.lies(0, 1) < 9) {
      yard.pass(1);
    }
    Check.same("rule 7 with 9", true, isBroken(yard, 7));
    for (int i = 0; i < 3; i++) {
      yard.put(0, 900, 2, 0, 0);
    }
    Check.same("foul without a draught", 255, yard.breaks(0));
  }

  private static void bestBuyers() {
    KeelHouse yard = Yards.ready();
    yard.limit(0, 200);
    Check.same("bestBuyer without buyers", -1, yard.bestBuyer(0));
    Check.noIndex(yard, "bestBuyer(1)", () -> yard.bestBuyer(1));
    yard.buyer(41, 0, 0, 300, 30000);
    Check.same("41 of length is wished", -1, yard.bestBuyer(0));
    yard.buyer(40, 0, 0, 300, 700);
    Check.same("the price is the most", 1, yard.bestBuyer(0));
    yard.buyer(34, 0, 0, 300, 700);
    int rival = yard.sale(2, 10);
    Check.same("a rival of " + rival, 680 + 3 * yard.yard(1), rival);
    Check.same("of both alike the first, or the one with the higher rival", 1, yard.bestBuyer(0));
    yard.buyer(20, 6, 1 << 2, 300, 30000);
    Check.same("rival less 1 of 790 and more", 3, yard.bestBuyer(0));
    yard.limit(0, 100);
    Check.same("it breaks the rule of that one", 1, yard.bestBuyer(0));
    yard.limit(0, 200);
    yard.net(0, 10);
    Check.same("it is too slow for that one", 1, yard.bestBuyer(0));
    yard.bid(1, 0, 701);
    Check.same("that one is gone", 2, yard.bestBuyer(0));
    yard.bid(2, 0, 300);
    Check.same("it is under contract", -1, yard.bestBuyer(0));
    alikeBuyers();
  }

  private static void alikeBuyers() {
    KeelHouse yard = Yards.drawn();
    yard.buyer(40, 0, 0, 300, 500);
    yard.buyer(30, 0, 0, 300, 500);
    Check.same("500 both", 0, yard.bestBuyer(0));
    yard.buyer(20, 1, 0, 300, 30000);
    Check.same("a drawn one has no speed", 0, yard.bestBuyer(0));
    yard.buyer(40, 0, 0, 300, 501);
    Check.same("501", 3, yard.bestBuyer(0));
    Check.same("bestBuyer of a lost one", -1, Yards.lost().bestBuyer(0));
    KeelHouse both = Yards.drawn();
    both.buyer(30, 0, 0, 300, 600 + 3 * 7 - 1);
    both.buyer(30, 0, 0, 300, 30000);
    Check.same("a price of rival less 1, and rival less 1", 0, both.bestBuyer(0));
    KeelHouse turned = Yards.drawn();
    turned.buyer(30, 0, 0, 300, 30000);
    turned.buyer(40, 0, 0, 300, 600 + 3 * 7 - 1);
    Check.same("rival less 1, and a price of that", 0, turned.bestBuyer(0));
  }
}
