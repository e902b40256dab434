/** Promises 11 to 14: sheets, order, cut, cutAll, scrap, store, needs. */
public final class StoreTest {
  public static void main(String[] args) {
    kinds();
    kindsRefuse();
    orders();
    ordersRefuse();
    rows();
    offcutsUsed();
    bestOffcut();
    ninthOffcut();
    smallRests();
    cutRefuses();
    tooFew();
    cutAllLeavesOut();
    scraps();
    needed();
    Check.end();
  }

  private static void kinds() {
    KeelHouse yard = new KeelHouse();
    Check.same("sheets", 0, yard.sheets(10, 20, 3, 1, 1));
    Check.same("sheets", 1, yard.sheets(40, 120, 40, 99, 30));
    Check.same("sheets", 2, yard.sheets(25, 25, 12, 7, 9));
    int[][] due = {{10, 20, 3, 1, 1, 0, 0, 0, 0}, {40, 120, 40, 99, 30, 0, 0, 0, 0}, {25, 25, 12, 7, 9, 0, 0, 0, 0}};
    for (int kind = 0; kind < 3; kind++) {
      for (int what = 0; what <= 8; what++) {
        Check.same("store(" + kind + ", " + what + ")", due[kind][what], yard.store(kind, what));
      }
    }
    Check.same("kinds", 3, yard.yard(8));
    Check.badState(yard, "a fourth kind", () -> yard.sheets(10, 20, 3, 1, 1));
    Check.badArgument(yard, "a fourth kind, a wrong one", () -> yard.sheets(9, 20, 3, 1, 1));
    Check.badArgument(yard, "store(0, 9)", () -> yard.store(0, 9));
    Check.badArgument(yard, "store(0, -1)", () -> yard.store(0, -1));
    Check.noIndex(yard, "store(3, 9)", () -> yard.store(3, 9));
    Check.noIndex(yard, "store(-1, 0)", () -> yard.store(-1, 0));
  }

  private static void kindsRefuse() {
    KeelHouse yard = new KeelHouse();
    int[][] wrong = {
      {9, 60, 8, 3, 2}, {41, 60, 8, 3, 2}, {15, 19, 8, 3, 2}, {20, 121, 8, 3, 2}, {31, 30, 8, 3, 2}, {20, 60, 2, 3, 2},
      {20, 60, 41, 3, 2}, {20, 60, 8, 0, 2}, {20, 60, 8, 100, 2}, {20, 60, 8, 3, 0}, {20, 60, 8, 3, 31}};
    for (int[] w : wrong) {
      Check.badArgument(yard, "sheets " + java.util.Arrays.toString(w),
          () -> yard.sheets(w[0], w[1], w[2], w[3], w[4]));
    }
  }

  private static void orders() {
    KeelHouse yard = new KeelHouse();
    yard.sheets(20, 60, 8, 3, 2);
    yard.sheets(20, 60, 8, 50, 1);
    Check.same("order", 2, yard.order(0, 100));
    Check.same("order", 1, yard.order(1, 1));
    Check.same("order", 2, yard.order(0, 300));
    Check.same("cash", 5000 - 300 - 50 - 900, yard.cash());
    Check.same("steel of the yard", -1250, yard.money(0, -1, 0));
    Check.same("on the way", 400, yard.store(0, 6));
    Check.same("orders", 3, yard.yard(10));
    yard.pass(1);
    Check.same("stock of 1", 1, yard.store(1, 5));
    Check.same("stock of 0", 0, yard.store(0, 5));
    Check.same("orders", 2, yard.yard(10));
    yard.pass(1);
    Check.same("stock of 0", 400, yard.store(0, 5));
    Check.same("on the way", 0, yard.store(0, 6));
    Check.same("orders", 0, yard.yard(10));
    Check.same("order", 4, yard.order(0, 1));
    for (int i = 0; i < 5; i++) {
      yard.order(0, 1);
    }
    Check.badState(yard, "a seventh order", () -> yard.order(0, 1));
    Check.badArgument(yard, "a seventh order of 301", () -> yard.order(0, 301));
    yard.pass(2);
    Check.same("an order is possible again", 5, yard.order(1, 1));
  }

  private static void ordersRefuse() {
    KeelHouse yard = new KeelHouse();
    Check.noIndex(yard, "order without kinds", () -> yard.order(0, 0));
    yard.sheets(20, 60, 8, 3, 2);
    Check.noIndex(yard, "order of 1", () -> yard.order(1, 0));
    Check.noIndex(yard, "order of -1", () -> yard.order(-1, 1));
    Check.badArgument(yard, "order of 0 sheets", () -> yard.order(0, 0));
    Check.badArgument(yard, "order of 301 sheets", () -> yard.order(0, 301));
  }

  private static KeelHouse withStock(int length, int depth, int halfWidth, int wide, int longer) {
    KeelHouse yard = new KeelHouse();
    yard.draw(0, length, depth, halfWidth);
    yard.sheets(wide, longer, 8, 1, 1);
    yard.order(0, 300);
    yard.lay(0, 0);
    yard.pass(1);
    return yard;
  }

  /** A panel of 66 by 100: 10 along, 8 across. */
  private static void rows() {
    KeelHouse yard = withStock(40, 6, 40, 20, 60);
    Check.same("cut across", 8, yard.cut(0, 0, 0, 0));
    Check.same("stock", 292, yard.store(0, 5));
    Check.same("offcuts", 2, yard.store(0, 7));
    Check.same("their area", 14 * 60 + 20 * 6, yard.store(0, 8));
    KeelHouse along = withStock(40, 5, 40, 20, 33);
    Check.same("cut along: 2 by 5, across 4 by 4", 10, along.cut(0, 0, 0, 0));
    Check.same("66 and 100 are multiples: nothing is left over", 0, along.store(0, 7));
    KeelHouse alike = withStock(24, 4, 16, 20, 40);
    Check.same("cut along: 1 by 2, across 2 by 1", 2, alike.cut(0, 0, 0, 0));
    Check.same("along is taken: 40 is a multiple both ways, nothing is left over", 0, alike.store(0, 7));
  }

  /** A panel of 33 by 40 of a sheet of 40 by 120 leaves 87 by 40; the sides' 33 by 80 fit that turned. */
  private static void offcutsUsed() {
    KeelHouse yard = withStock(20, 4, 16, 40, 120);
    Check.same("cut from a sheet", 1, yard.cut(0, 0, 0, 0));
    Check.same("offcuts", 1, yard.store(0, 7));
    Check.same("offcuts of the yard", 1, yard.yard(9));
    Check.same("area", 87 * 40, yard.store(0, 8));
    Check.same("cut from the offcut, turned", 0, yard.cut(0, 0, 1, 0));
    Check.same("nothing is left of it", 0, yard.store(0, 7));
    Check.badState(yard, "cut of what is cut from an offcut", () -> yard.cut(0, 0, 1, 0));
    Check.same("stock", 299, yard.store(0, 5));
    Check.same("the deck from a sheet", 1, yard.cut(0, 0, 2, 0));
    Check.same("the next bottom from the offcut, as it lies", 0, yard.cut(0, 1, 0, 0));
    yard.sheets(40, 120, 8, 1, 1);
    yard.order(1, 10);
    yard.pass(1);
    yard.cut(0, 2, 0, 0);
    Check.same("an offcut of another kind does not do", 1, yard.cut(0, 2, 1, 1));
    Check.same("that offcut is still there", 1, yard.store(0, 7));
  }

  private static KeelHouse twoShips(int halfWidth) {
    KeelHouse yard = new KeelHouse();
    yard.draw(0, 20, 4, 16);
    yard.draw(0, 20, 4, halfWidth);
    yard.sheets(40, 120, 8, 1, 1);
    yard.sheets(33, 60, 8, 1, 1);
    yard.order(0, 300);
    yard.order(1, 300);
    yard.lay(0, 0);
    yard.lay(1, 1);
    yard.pass(1);
    return yard;
  }

  /** 33 by 80 of 40 by 120 leaves 7 by 120 and 40 by 33, of which each covers nothing but one of 33 by 40. */
  private static void bestOffcut() {
    KeelHouse yard = twoShips(32);
    Check.same("33 by 40 leaves 87 by 40", 1, yard.cut(0, 0, 0, 0));
    Check.same("33 by 80 takes that", 0, yard.cut(1, 0, 0, 0));
    Check.same("33 by 80 from a sheet", 1, yard.cut(1, 1, 0, 0));
    Check.same("area", 7 * 120 + 40 * 33, yard.store(0, 8));
    KeelHouse other = twoShips(17);
    Check.same("33 by 42 leaves 7 by 120 and 78 by 33", 1, other.cut(1, 0, 0, 0));
    Check.same("33 by 80 leaves 7 by 120 and 40 by 33", 1, other.cut(0, 0, 1, 0));
    Check.same("33 by 40 takes the smaller one, though it is younger", 0, other.cut(0, 0, 0, 0));
    Check.same("the larger one is left", 2 * 7 * 120 + 78 * 33, other.store(0, 8));
    KeelHouse alike = twoShips(32);
    for (int k = 0; k < 2; k++) {
      alike.cut(1, k, 0, 0);
    }
    Check.same("two of each", 2 * (7 * 120 + 40 * 33), alike.store(0, 8));
    Check.same("33 by 40 takes 40 by 33", 0, alike.cut(0, 0, 0, 0));
    Check.same("one is left", 2 * 7 * 120 + 40 * 33, alike.store(0, 8));
    for (int i = 0; i < 7; i++) {
      Check.same("33 by 40 of 33 by 60", 1, alike.cut(0, Math.min(i, 5), i < 6 ? 2 : 0, 1));
    }
    Check.same("seven more: the two oldest are gone", 7, alike.store(1, 7));
    Check.same("the oldest of both was taken, so the last one is left", 40 * 33, alike.store(0, 8));
  }

  private static void ninthOffcut() {
    KeelHouse yard = new KeelHouse();
    yard.draw(0, 40, 6, 40);
    yard.sheets(20, 60, 8, 1, 1);
    yard.sheets(20, 60, 9, 1, 1);
    yard.order(0, 300);
    yard.order(1, 300);
    yard.lay(0, 0);
    yard.pass(1);
    yard.cut(0, 0, 0, 1);
    Check.same("offcuts of 1", 2, yard.store(1, 7));
    for (int c = 1; c <= 3; c++) {
      Check.same("cut " + c, 8, yard.cut(0, c, 0, 0));
    }
    Check.same("eight offcuts", 8, yard.yard(9));
    Check.same("those of 1 are the oldest", 2, yard.store(1, 7));
    yard.cut(0, 0, 1, 0);
    Check.same("still eight offcuts", 8, yard.yard(9));
    Check.same("120 is a multiple of 60: one came, one of 1 is gone", 1, yard.store(1, 7));
    Check.same("the smaller one is left of 1", 20 * 6, yard.store(1, 8));
    yard.cut(0, 4, 0, 0);
    Check.same("none of 1 is left", 0, yard.store(1, 7));
    Check.same("still eight offcuts", 8, yard.yard(9));
  }

  /** What is left over of 4 is thrown away, of 5 kept. */
  private static void smallRests() {
    KeelHouse four = withStock(24, 4, 16, 22, 40);
    Check.same("40 by 40 along: 1 by 2", 2, four.cut(0, 0, 0, 0));
    Check.same("44 less 40 is nothing", 0, four.store(0, 7));
    KeelHouse five = withStock(27, 4, 16, 20, 50);
    Check.same("45 by 40 along: 1 by 2", 2, five.cut(0, 0, 0, 0));
    Check.same("50 less 45 is an offcut", 1, five.store(0, 7));
    Check.same("5 by what lies along b", 5 * 20, five.store(0, 8));
    KeelHouse both = withStock(20, 4, 16, 15, 38);
    Check.same("33 by 40 along: 1 by 3", 3, both.cut(0, 0, 0, 0));
    Check.same("5 by 15, and 5 by 33", 5 * 15 + 5 * 33, both.store(0, 8));
    KeelHouse exact = withStock(20, 4, 16, 40, 66);
    Check.same("33 by 40 along", 1, exact.cut(0, 0, 0, 0));
    Check.same("33 by 40 is left over", 33 * 40, exact.store(0, 8));
    Check.same("that is just enough", 0, exact.cut(0, 1, 0, 0));
    KeelHouse narrow = new KeelHouse();
    narrow.draw(0, 20, 4, 16);
    for (int k = 0; k < 7; k++) {
      narrow.offset(0, k, 1, 0);
    }
    narrow.sheets(20, 60, 8, 1, 1);
    narrow.order(0, 300);
    narrow.lay(0, 0);
    narrow.pass(1);
    Check.same("a bottom without breadth is 1", 1, narrow.cut(0, 0, 0, 0));
    Check.same("27 by 20 and 19 by 33", 27 * 20 + 19 * 33, narrow.store(0, 8));
  }

  private static void cutRefuses() {
    KeelHouse yard = new KeelHouse();
    yard.draw(0, 40, 6, 40);
    yard.plan(0, 0, 0, 9, 8);
    yard.sheets(20, 60, 8, 1, 1);
    yard.order(0, 300);
    yard.pass(1);
    Check.noIndex(yard, "cut(1, ..)", () -> yard.cut(1, 0, 0, 0));
    Check.noIndex(yard, "cut of compartment 6", () -> yard.cut(0, 6, 0, 0));
    Check.noIndex(yard, "cut of compartment -1", () -> yard.cut(0, -1, 0, 0));
    Check.noIndex(yard, "cut of strake 3", () -> yard.cut(0, 0, 3, 0));
    Check.noIndex(yard, "cut of strake -1", () -> yard.cut(0, 0, -1, 0));
    Check.noIndex(yard, "cut from kind 1", () -> yard.cut(0, 0, 0, 1));
    Check.badArgument(yard, "cut of a plan of 0, drawn", () -> yard.cut(0, 0, 0, 0));
    Check.badArgument(yard, "cut of a plan of 9", () -> yard.cut(0, 0, 1, 0));
    Check.badState(yard, "cut of a drawn one", () -> yard.cut(0, 0, 2, 0));
    yard.lay(0, 0);
    Check.badArgument(yard, "cut of a plan of 0", () -> yard.cut(0, 0, 0, 0));
    Check.same("cut of a plan of 8", 8, yard.cut(0, 0, 2, 0));
    Check.badState(yard, "cut of what is cut", () -> yard.cut(0, 0, 2, 0));
    KeelHouse afloat = Yards.afloat();
    Check.badState(afloat, "cut afloat", () -> afloat.cut(0, 0, 0, 0));
  }

  private static void tooFew() {
    KeelHouse yard = new KeelHouse();
    yard.draw(0, 40, 6, 40);
    yard.sheets(20, 60, 8, 1, 1);
    yard.order(0, 15);
    yard.lay(0, 0);
    yard.pass(1);
    Check.same("cut", 8, yard.cut(0, 0, 0, 0));
    long before = yard.digest();
    Check.same("cut with 7 left", -2, yard.cut(0, 1, 0, 0));
    Check.same("nothing was done", before, yard.digest());
    yard.order(0, 1);
    yard.pass(1);
    Check.same("cut with 8 left", 8, yard.cut(0, 1, 0, 0));
    Check.same("stock", 0, yard.store(0, 5));
  }

  private static void cutAllLeavesOut() {
    KeelHouse yard = new KeelHouse();
    yard.draw(0, 40, 6, 40);
    yard.plan(0, 1, 0, 9, 8);
    yard.sheets(20, 60, 8, 1, 1);
    yard.order(0, 300);
    yard.pass(1);
    Check.same("cutAll of a drawn one", 0, yard.cutAll(0, 0));
    yard.lay(0, 0);
    Check.noIndex(yard, "cutAll(1, 0)", () -> yard.cutAll(1, 0));
    Check.noIndex(yard, "cutAll(0, 1)", () -> yard.cutAll(0, 1));
    Check.same("cut", 8, yard.cut(0, 0, 0, 0));
    Check.same("cutAll leaves out what is cut, 0, or too thick", 15, yard.cutAll(0, 0));
    Check.same("cutAll once more", 0, yard.cutAll(0, 0));
    KeelHouse some = withStock(20, 4, 16, 40, 120);
    Check.same("cutAll, some from offcuts", 18, some.cutAll(0, 0));
    Check.same("eighteen strakes, fewer sheets", true, some.store(0, 5) > 300 - 18);
    KeelHouse few = new KeelHouse();
    few.draw(0, 40, 6, 40);
    few.sheets(20, 60, 8, 1, 1);
    few.order(0, 20);
    few.lay(0, 0);
    few.pass(1);
    Check.same("cutAll with sheets for two", 2, few.cutAll(0, 0));
  }

  private static void scraps() {
    KeelHouse yard = Yards.onSlip();
    yard.cut(0, 0, 0, 0);
    yard.cut(0, 5, 2, 0);
    Yards.buildOn(yard, 0, 0);
    yard.pass(1);
    Check.same("the bottom is begun, the deck is cut", 1, yard.scrap(0));
    Check.same("scrap once more", 0, yard.scrap(0));
    Check.same("the deck can be cut again", true, yard.cut(0, 5, 2, 0) >= 0);
    Check.badState(yard, "cut of what is begun", () -> yard.cut(0, 0, 0, 0));
    Check.noIndex(yard, "scrap(1)", () -> yard.scrap(1));
    Check.same("scrap of a lost one", 0, Yards.lost().scrap(0));
    KeelHouse all = Yards.onSlip();
    Check.same("all are cut", 18, all.cutAll(0, 0));
    Check.same("all are thrown away", 18, all.scrap(0));
    Check.same("all are cut again, as far as there are sheets", true, all.cutAll(0, 0) > 0);
  }

  /** Panels of 80 by what is broad there: halves of the waterline 1 below, of 4 on deck. */
  private static void taperedNeeds() {
    KeelHouse yard = new KeelHouse();
    yard.draw(1, 48, 8, 64);
    yard.sheets(10, 80, 8, 1, 1);
    int[] bottoms = {21, 42, 56, 56, 56, 42, 14};
    int[] decks = {24, 48, 64, 64, 64, 48, 16};
    int due = 0;
    for (int c = 0; c < 6; c++) {
      int bottom = (int) ((bottoms[c] + bottoms[c + 1]) / 8.0 * 10.0);
      int deck = (int) ((decks[c] + decks[c + 1]) / 8.0 * 10.0);
      due += fewest(bottom) + fewest(160) + fewest(deck);
    }
    Check.same("needs of a tapered hull", due, yard.needs(0, 0));
    yard.lay(0, 0);
    for (int c = 0; c < 6; c++) {
      int bottom = (int) ((bottoms[c] + bottoms[c + 1]) / 8.0 * 10.0);
      Check.same("hours of the bottom of " + c, 8 + 80 * bottom / 100, yard.job(0, 1 + 3 * c, 0));
    }
  }

  /** Of 10 by 80 for 80 by b: along 1 by so many of 10, across 8 by so many of 80. */
  private static int fewest(int b) {
    return Math.min((b + 9) / 10, 8 * ((b + 79) / 80));
  }

  private static void needed() {
    KeelHouse yard = withStock(40, 6, 40, 20, 60);
    yard.sheets(20, 60, 5, 1, 1);
    Check.same("needs", 6 * (8 + 8 + 8), yard.needs(0, 0));
    Check.same("needs from what is too thin", 0, yard.needs(0, 1));
    yard.cut(0, 0, 0, 0);
    Check.same("needs without what is cut", 17 * 8, yard.needs(0, 0));
    KeelHouse drawn = Yards.drawn();
    drawn.sheets(20, 60, 8, 1, 1);
    drawn.plan(0, 3, 0, 9, 8);
    Check.same("needs of a drawn one", 16 * 8, drawn.needs(0, 0));
    taperedNeeds();
    Check.noIndex(drawn, "needs(1, 0)", () -> drawn.needs(1, 0));
    Check.noIndex(drawn, "needs(0, 1)", () -> drawn.needs(0, 1));
  }
}
