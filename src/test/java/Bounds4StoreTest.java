import java.util.EnumSet;

/** Section 4, promises 11 to 14, at their bounds. */
public final class Bounds4StoreTest {
  public static void main(String[] args) throws Exception {
    Bounds.run(Bounds4StoreTest.class);
  }

  private static KeelHouse withKind() {
    KeelHouse yard = new KeelHouse();
    yard.sheets(20, 60, 8, 3, 2);
    return yard;
  }

  /** A box on the slip 0; its bottoms are panels of 60 by 100, its sides of 60 by 120. */
  private static KeelHouse slip(int wide, int longer, int many) {
    KeelHouse yard = new KeelHouse();
    yard.draw(0, 36, 6, 40);
    yard.sheets(wide, longer, 6, 1, 1);
    yard.order(0, many);
    yard.lay(0, 0);
    yard.pass(1);
    return yard;
  }

  static void promise11SheetsWide10To40() {
    Bounds.argument("sheets, wide", KeelHouse::new, 10, 40, (yard, wide) -> yard.sheets(wide, 60, 8, 3, 2));
  }

  static void promise11SheetsLong20To120() {
    Bounds.argument("sheets, long", KeelHouse::new, 20, 120, (yard, longer) -> yard.sheets(10, longer, 8, 3, 2));
  }

  static void promise11SheetsWideNoMoreThanLong() {
    Bounds.taken(new KeelHouse(), "sheets of 30 by 30", () -> new KeelHouse().sheets(30, 30, 8, 3, 2));
    Bounds.taken(new KeelHouse(), "sheets of 30 by 31", () -> new KeelHouse().sheets(30, 31, 8, 3, 2));
    KeelHouse yard = new KeelHouse();
    Check.badArgument(yard, "sheets of 31 by 30", () -> yard.sheets(31, 30, 8, 3, 2));
  }

  static void promise11SheetsThickness3To40() {
    Bounds.argument("sheets, thickness", KeelHouse::new, 3, 40, (yard, thick) -> yard.sheets(20, 60, thick, 3, 2));
  }

  static void promise11SheetsPrice1To99() {
    Bounds.argument("sheets, price", KeelHouse::new, 1, 99, (yard, price) -> yard.sheets(20, 60, 8, price, 2));
  }

  static void promise11SheetsLead1To30() {
    Bounds.argument("sheets, lead", KeelHouse::new, 1, 30, (yard, lead) -> yard.sheets(20, 60, 8, 3, lead));
  }

  static void promise11SheetsThreeKindsAtMost() {
    KeelHouse yard = new KeelHouse();
    for (int kind = 0; kind < 3; kind++) {
      Check.same("sheets", kind, yard.sheets(20, 60, 8, 3, 2));
    }
    Check.badState(yard, "a fourth kind", () -> yard.sheets(20, 60, 8, 3, 2));
  }

  static void promise12OrderKindsThatAreThere() {
    KeelHouse yard = new KeelHouse();
    for (int many = 0; many <= 3; many++) {
      int beyond = many;
      for (int kind : new int[] {-1, beyond, Integer.MAX_VALUE, Integer.MIN_VALUE}) {
        Check.noIndex(yard, "order of the kind " + kind, () -> yard.order(kind, 1));
        Check.noIndex(yard, "store of the kind " + kind, () -> yard.store(kind, 0));
      }
      if (many < 3) {
        yard.sheets(20, 60, 8, 3, 2);
        Bounds.taken(yard, "order of the last kind", () -> yard.order(beyond, 1));
      }
    }
  }

  static void promise12Order1To300() {
    Bounds.argument("order", Bounds4StoreTest::withKind, 1, 300, (yard, many) -> yard.order(0, many));
    KeelHouse yard = withKind();
    yard.order(0, 300);
    Check.same("300 at 3", 5000 - 900, yard.cash());
  }

  static void promise12OrderSixAreOnTheirWay() {
    KeelHouse yard = withKind();
    for (int i = 0; i < 5; i++) {
      yard.order(0, 1);
    }
    yard.pass(1);
    Check.same("the sixth", 3, yard.order(0, 10));
    Check.badState(yard, "the seventh", () -> yard.order(0, 1));
    yard.pass(1);
    Check.same("one is still on its way", 1, yard.yard(10));
    for (int i = 0; i < 5; i++) {
      Bounds.taken(yard, "order", () -> yard.order(0, 1));
    }
    Check.badState(yard, "a seventh again", () -> yard.order(0, 1));
  }

  /** They come as the day begins that is so many later, not the day before. */
  static void promise12OrderComesOnItsDay() {
    for (int lead : new int[] {1, 2, 30}) {
      KeelHouse yard = new KeelHouse();
      yard.sheets(20, 60, 8, 3, lead);
      yard.pass(5);
      Check.same("order", 5 + lead, yard.order(0, 7));
      for (int day = 5; day < 5 + lead; day++) {
        Check.same("stock on " + day, 0, yard.store(0, 5));
        Check.same("on their way on " + day, 7, yard.store(0, 6));
        yard.pass(1);
      }
      Check.same("stock on its day", 7, yard.store(0, 5));
      Check.same("none on their way", 0, yard.store(0, 6));
      yard.pass(1);
      Check.same("stock behind it", 7, yard.store(0, 5));
    }
  }

  static void promise12OrderOnTheLastDay() {
    KeelHouse yard = withKind();
    for (int i = 0; i < 13; i++) {
      yard.pass(30);
    }
    yard.pass(10);
    Check.same("order on 400", 402, yard.order(0, 1));
    Check.same("booked in the last month", -3, yard.money(0, -1, 13));
  }

  static void promise12CutCompartment0To5() {
    Bounds.index("cut, compartment", () -> slip(20, 60, 300), 0, 5, (yard, c) -> yard.cut(0, c, 0, 0));
  }

  static void promise12CutStrake0To2() {
    Bounds.index("cut, strake", () -> slip(20, 60, 300), 0, 2, (yard, strake) -> yard.cut(0, 0, strake, 0));
  }

  static void promise12CutKindsThatAreThere() {
    Bounds.index("cut, kind", () -> slip(20, 60, 300), 0, 0, (yard, kind) -> yard.cut(0, 0, 0, kind));
  }

  static void promise12CutOfAPlanUpToTheThickness() {
    for (int plan : new int[] {0, 1, 5, 6, 7, 40}) {
      KeelHouse yard = new KeelHouse();
      yard.draw(0, 36, 6, 40);
      yard.plan(0, 2, plan, 0, 0);
      yard.sheets(20, 60, 6, 1, 1);
      yard.order(0, 300);
      yard.lay(0, 0);
      yard.pass(1);
      boolean isRight = plan > 0 && plan <= 6;
      Check.same("needs with a plan of " + plan, 5 * (5 + 6 + 5) + (isRight ? 5 : 0), yard.needs(0, 0));
      if (isRight) {
        Check.same("cut with a plan of " + plan, 5, yard.cut(0, 2, 0, 0));
      } else {
        Check.badArgument(yard, "cut with a plan of " + plan, () -> yard.cut(0, 2, 0, 0));
        Check.same("cutAll leaves it out, and 2 more", 15, yard.cutAll(0, 0));
      }
    }
  }

  static void promise12CutOnlyOnTheSlip() {
    for (Place place : Place.values()) {
      KeelHouse yard = place.yard();
      if (place == Place.SLIP) {
        Check.same("cut", 8, yard.cut(0, 0, 0, 0));
      } else {
        Check.badState(yard, "cut at " + place, () -> yard.cut(0, 0, 0, 0));
        Check.inVain(yard, "cutAll at " + place, 0, () -> yard.cutAll(0, 0));
      }
    }
  }

  static void promise12CutOnlyWhatIsBare() {
    KeelHouse yard = Place.SLIP.yard();
    yard.cut(0, 0, 0, 0);
    Check.badState(yard, "cut of what is cut", () -> yard.cut(0, 0, 0, 0));
    while (yard.job(0, 1, 0) == 74) {
      yard.pass(1);
    }
    Check.same("it is not done", 0, yard.job(0, 1, 2));
    Check.badState(yard, "cut of what is begun", () -> yard.cut(0, 0, 0, 0));
    while (yard.job(0, 1, 2) == 0) {
      yard.pass(1);
    }
    Check.badState(yard, "cut of what is fitted", () -> yard.cut(0, 0, 0, 0));
  }

  /** A panel of 60 by 100 takes 5 of 60 by 20. */
  static void promise12CutWithStockThatIsJustEnough() {
    KeelHouse just = slip(20, 60, 5);
    Check.same("cut with 5", 5, just.cut(0, 0, 0, 0));
    Check.same("stock", 0, just.store(0, 5));
    KeelHouse less = slip(20, 60, 4);
    Check.inVain(less, "cut with 4", -2, () -> less.cut(0, 0, 0, 0));
    Check.inVain(less, "cutAll with 4", 0, () -> less.cutAll(0, 0));
    KeelHouse none = slip(20, 60, 5);
    none.cut(0, 0, 0, 0);
    Check.inVain(none, "cut with none", -2, () -> none.cut(0, 1, 0, 0));
  }

  /** A multiple is taken as it is; a tenth more takes a row more. */
  static void section4MultiplesOfLongAndWide() {
    int[][] sheets = {{20, 60, 5}, {20, 59, 6}, {20, 61, 5}, {19, 60, 6}, {21, 60, 5}, {30, 50, 4}, {30, 49, 6},
      {25, 30, 8}, {10, 30, 12 + 8}, {40, 100, 2}, {40, 99, 3}, {40, 101, 2}, {40, 120, 2}, {10, 120, 6}};
    for (int[] s : sheets) {
      int along = ((60 + s[1] - 1) / s[1]) * ((100 + s[0] - 1) / s[0]);
      int across = ((60 + s[0] - 1) / s[0]) * ((100 + s[1] - 1) / s[1]);
      KeelHouse yard = slip(s[0], s[1], 300);
      Check.same("the fewer of " + along + " and " + across, s[2], Math.min(along, across));
      Check.same("cut from " + s[0] + " by " + s[1], s[2], yard.cut(0, 0, 0, 0));
      Check.same("stock", 300 - s[2], yard.store(0, 5));
    }
  }

  /** 4 by 4 both ways: along leaves 80 - 60 by 25, and 25 by 80 - 20; across would leave others. */
  static void section4AlongIfBothTakeAsMany() {
    KeelHouse yard = new KeelHouse();
    yard.draw(0, 36, 6, 20);
    yard.sheets(30, 40, 6, 1, 1);
    yard.order(0, 300);
    yard.lay(0, 0);
    yard.pass(1);
    Check.same("60 by 50: 2 by 2 along, 2 by 2 across", 4, yard.cut(0, 0, 0, 0));
    Check.same("along: 20 by 30, and 10 by 40 less 20", 20 * 30 + 10 * 20, yard.store(0, 8));
  }

  static void section4RestOf4And5AlongA() {
    KeelHouse four = slip(20, 64, 300);
    Check.same("cut", 5, four.cut(0, 0, 0, 0));
    Check.same("64 less 60 is nothing", 0, four.store(0, 7));
    KeelHouse five = slip(20, 65, 300);
    Check.same("cut", 5, five.cut(0, 0, 0, 0));
    Check.same("65 less 60 is an offcut", 1, five.store(0, 7));
    Check.same("5 by 20", 100, five.store(0, 8));
    KeelHouse six = slip(20, 66, 300);
    six.cut(0, 0, 0, 0);
    Check.same("6 by 20", 120, six.store(0, 8));
  }

  static void section4RestOf4And5AlongB() {
    KeelHouse four = slip(26, 60, 300);
    Check.same("cut", 4, four.cut(0, 0, 0, 0));
    Check.same("104 less 100 is nothing", 0, four.store(0, 7));
    KeelHouse five = slip(21, 60, 300);
    Check.same("cut", 5, five.cut(0, 0, 0, 0));
    Check.same("105 less 100 is an offcut", 1, five.store(0, 7));
    Check.same("5 by 60", 300, five.store(0, 8));
  }

  /** What is left along b is shorter by what was left along a, if that is 5 or more. */
  static void section4RestAlongBIsShorterByThatAlongA() {
    KeelHouse four = slip(21, 64, 300);
    four.cut(0, 0, 0, 0);
    Check.same("4 and 5: one offcut", 1, four.store(0, 7));
    Check.same("5 by 64", 5 * 64, four.store(0, 8));
    KeelHouse five = slip(21, 65, 300);
    five.cut(0, 0, 0, 0);
    Check.same("5 and 5: two offcuts", 2, five.store(0, 7));
    Check.same("5 by 21, and 5 by 65 less 5", 5 * 21 + 5 * 60, five.store(0, 8));
    KeelHouse across = slip(32, 105, 300);
    Check.same("60 by 100: 2 of 32 by 105", 2, across.cut(0, 0, 0, 0));
    Check.same("4 and 5: 5 by 32", 5 * 32, across.store(0, 8));
    KeelHouse both = slip(33, 105, 300);
    both.cut(0, 0, 0, 0);
    Check.same("6 by 105, and 5 by 33 less 6", 6 * 105 + 5 * 27, both.store(0, 8));
  }

  /** A bottom without breadth is a panel of 1; with an eighth on one side 10 / 8 is 1, too, with two it is 2. */
  static void section4PanelIs1AtLeast() {
    int[][] halves = {{0, 0, 1}, {0, 1, 1}, {1, 1, 2}, {1, 2, 3}};
    for (int[] h : halves) {
      KeelHouse yard = new KeelHouse();
      yard.draw(0, 20, 4, 16);
      yard.offset(0, 0, 1, h[0]);
      yard.offset(0, 1, 1, h[1]);
      yard.sheets(33, 60, 6, 1, 1);
      yard.order(0, 300);
      yard.lay(0, 0);
      yard.pass(1);
      Check.same("cut", 1, yard.cut(0, 0, 0, 0));
      Check.same("33 by " + h[2] + " of 60 by 33 leaves", 27 * 33 + (33 - h[2]) * 33, yard.store(0, 8));
      Check.same("hours", 8 + 33 * h[2] / 100, yard.job(0, 1, 0));
    }
  }

  /** 60 by 100 leaves 10 offcuts in five cuts; the ninth one pushes the oldest out. */
  static void section4NinthOffcut() {
    KeelHouse yard = slip(21, 65, 300);
    for (int c = 0; c < 4; c++) {
      yard.cut(0, c, 0, 0);
    }
    Check.same("eight", 8, yard.yard(9));
    Check.same("their area", 4 * (105 + 300), yard.store(0, 8));
    yard.sheets(20, 65, 6, 1, 1);
    yard.order(1, 300);
    yard.pass(1);
    yard.cut(0, 4, 0, 1);
    Check.same("eight again", 8, yard.yard(9));
    Check.same("the oldest one, 5 by 21, is gone", 4 * 405 - 105, yard.store(0, 8));
    Check.same("5 by 20 of the other kind", 100, yard.store(1, 8));
    yard.cut(0, 5, 0, 1);
    Check.same("the next oldest one, 5 by 60, is gone", 3 * 405, yard.store(0, 8));
    Check.same("two of the other kind", 200, yard.store(1, 8));
    Check.same("eight still", 8, yard.yard(9));
  }

  /** An offcut that is as large as the panel covers it, as it lies or turned; a tenth less does not do. */
  static void section4OffcutThatJustCovers() {
    for (int longer = 65; longer <= 66; longer++) {
      KeelHouse yard = new KeelHouse();
      yard.draw(0, 20, 4, 16);
      yard.sheets(40, longer, 6, 1, 1);
      yard.order(0, 300);
      yard.lay(0, 0);
      yard.pass(1);
      Check.same("33 by 40 of 40 by " + longer, 1, yard.cut(0, 0, 0, 0));
      Check.same("what is left", (longer - 33) * 40, yard.store(0, 8));
      Check.same("the next from it", longer == 66 ? 0 : 1, yard.cut(0, 1, 0, 0));
    }
    turned();
  }

  /** 40 by 33 is left of 33 by 80; that covers 33 by 40, but not one of 34 or 41. */
  private static void turned() {
    int[] lengths = {20, 20, 21};
    int[] decks = {16, 17, 16};
    int[] due = {0, 1, 1};
    for (int i = 0; i < 3; i++) {
      KeelHouse yard = new KeelHouse();
      yard.draw(0, lengths[0], 4, 16);
      yard.draw(0, lengths[i], 4, decks[i]);
      yard.sheets(40, 120, 6, 1, 1);
      yard.order(0, 300);
      yard.lay(0, 0);
      yard.lay(1, 1);
      yard.pass(1);
      Check.same("33 by 80", 1, yard.cut(0, 0, 1, 0));
      Check.same("7 by 120 and 40 by 33", 840 + 1320, yard.store(0, 8));
      Check.same("a deck of " + lengths[i] + " by " + decks[i], due[i], yard.cut(1, 0, 2, 0));
    }
  }

  /** Of 87 by 40 and 40 by 33 the smaller one is taken; of two alike the one that is older. */
  static void section4SmallestOffcutAndOldestOfSeveral() {
    KeelHouse yard = new KeelHouse();
    yard.draw(0, 20, 4, 16);
    yard.sheets(40, 120, 6, 1, 1);
    yard.order(0, 300);
    yard.lay(0, 0);
    yard.pass(1);
    Check.same("33 by 80 leaves 7 by 120 and 40 by 33", 1, yard.cut(0, 0, 1, 0));
    Check.same("33 by 80 once more", 1, yard.cut(0, 1, 1, 0));
    Check.same("33 by 40 takes the older 40 by 33", 0, yard.cut(0, 0, 0, 0));
    Check.same("three are left", 3, yard.yard(9));
    int area = yard.store(0, 8);
    Check.same("7 by 120, 7 by 120 and 40 by 33", 2 * 840 + 1320, area);
    yard.sheets(33, 50, 6, 1, 1);
    yard.order(1, 300);
    yard.pass(1);
    for (int c = 2; c <= 4; c++) {
      yard.cut(0, c, 0, 1);
      yard.cut(0, c, 2, 1);
    }
    Check.same("six of 10 by 33 more: the oldest one was thrown away", 8, yard.yard(9));
    Check.same("the second 7 by 120 and the younger 40 by 33 are left", 840 + 1320, yard.store(0, 8));
    yard.cut(0, 5, 0, 1);
    Check.same("the second 7 by 120 is gone, the younger 40 by 33 is left", 1320, yard.store(0, 8));
  }

  static void promise13CutAllCounts() {
    KeelHouse yard = slip(20, 60, 300);
    yard.cut(0, 3, 1, 0);
    Check.same("cutAll", 17, yard.cutAll(0, 0));
    Check.same("needs", 0, yard.needs(0, 0));
    Check.inVain(yard, "cutAll once more", 0, () -> yard.cutAll(0, 0));
    KeelHouse eleven = slip(20, 60, 11);
    Check.same("5 and 6 of 11 sheets", 2, eleven.cutAll(0, 0));
    Check.same("stock", 0, eleven.store(0, 5));
    KeelHouse ten = slip(20, 60, 10);
    Check.same("5, not 6, and 5 of 10 sheets", 2, ten.cutAll(0, 0));
    Check.badState(ten, "the deck is cut", () -> ten.cut(0, 0, 2, 0));
    Check.same("the sides are bare", -2, ten.cut(0, 0, 1, 0));
  }

  static void promise13CutAllAndNeedsOfKindsThatAreThere() {
    KeelHouse yard = slip(20, 60, 300);
    for (int kind : new int[] {-1, 1, Integer.MAX_VALUE, Integer.MIN_VALUE}) {
      Check.noIndex(yard, "cutAll from " + kind, () -> yard.cutAll(0, kind));
      Check.noIndex(yard, "needs of " + kind, () -> yard.needs(0, kind));
    }
  }

  static void promise13ScrapAtAnyPlace() {
    Bounds.onlyAt("scrap", EnumSet.allOf(Place.class), yard -> yard.scrap(0));
    KeelHouse drawn = Place.DRAWN.yard();
    Check.inVain(drawn, "scrap of a drawn one", 0, () -> drawn.scrap(0));
    KeelHouse slip = Place.SLIP.yard();
    slip.cut(0, 0, 0, 0);
    slip.cut(0, 5, 2, 0);
    Check.same("scrap of two", 2, slip.scrap(0));
    Check.inVain(slip, "scrap of none", 0, () -> slip.scrap(0));
    KeelHouse afloat = Place.AFLOAT.yard();
    Check.inVain(afloat, "scrap of what is fitted", 0, () -> afloat.scrap(0));
  }

  static void promise14StoreWhat0To8() {
    Bounds.argument("store", Bounds4StoreTest::withKind, 0, 8, (yard, what) -> yard.store(0, what));
  }

  /** A kind of 6 does for plans of 1 to 6. */
  static void promise14NeedsPlansOf1ToThickness() {
    for (int plan = 0; plan <= 8; plan++) {
      KeelHouse yard = new KeelHouse();
      yard.draw(0, 36, 6, 40);
      for (int c = 0; c < 6; c++) {
        yard.plan(0, c, 0, 0, 0);
      }
      yard.plan(0, 4, 0, plan, 0);
      yard.sheets(20, 60, 6, 1, 1);
      Check.same("needs with a plan of " + plan, plan >= 1 && plan <= 6 ? 6 : 0, yard.needs(0, 0));
    }
  }

  static void promise14NeedsWhatIsBare() {
    KeelHouse yard = slip(20, 60, 300);
    Check.same("needs", 6 * (5 + 6 + 5), yard.needs(0, 0));
    yard.cut(0, 0, 1, 0);
    Check.same("without what is cut", 6 * 16 - 6, yard.needs(0, 0));
    yard.scrap(0);
    Check.same("with what was thrown away", 6 * 16, yard.needs(0, 0));
    Check.same("of one that is fitted", 0, Place.READY.yard().needs(0, 0));
  }

  /** Plates of 3, the thinnest that there are, are fitted for a plan of 1. */
  static void section4PlatesAreOfTheirKindsThickness() {
    KeelHouse yard = Yards.drawn();
    for (int c = 0; c < 6; c++) {
      yard.plan(0, c, 1, 1, 1);
    }
    yard.lay(0, 0);
    yard.sheets(20, 60, 3, 1, 1);
    yard.order(0, 300);
    yard.teams(0, 6);
    yard.teams(1, 6);
    yard.pass(1);
    yard.cutAll(0, 0);
    Yards.buildOn(yard, 0, 19);
    Check.same("fitted", 3, yard.strake(0, 5, 5));
    Check.near("weight", 6 * 32.0 * 40 / 6 * 3 * 0.008 + 65, yard.floats(0, 0));
  }

  /** 67 by 30 is smaller than 27 by 100, though it is broader: that is taken. */
  static void section4SmallestAreaOfOffcuts() {
    KeelHouse yard = new KeelHouse();
    yard.draw(0, 20, 5, 16);
    for (int station = 0; station < 7; station++) {
      yard.offset(0, station, 1, 10);
    }
    yard.sheets(30, 100, 6, 1, 1);
    yard.order(0, 300);
    yard.lay(0, 0);
    yard.pass(1);
    Check.same("33 by 25 leaves 67 by 30 and 5 by 33", 1, yard.cut(0, 0, 0, 0));
    Check.same("33 by 100 leaves 27 by 100", 2, yard.cut(0, 0, 1, 0));
    Check.same("all of them", 2010 + 165 + 2700, yard.store(0, 8));
    Check.same("33 by 25 from an offcut", 0, yard.cut(0, 1, 0, 0));
    Check.same("the smaller one is gone", 165 + 2700, yard.store(0, 8));
    Check.same("33 by 25 from the other one", 0, yard.cut(0, 2, 0, 0));
    Check.same("that is gone, too", 165, yard.store(0, 8));
  }

  /** One sheet is all there is: what it leaves does for the next panel, and then nothing does. */
  static void promise12CutFromAnOffcutWithoutStock() {
    KeelHouse yard = new KeelHouse();
    yard.draw(0, 20, 4, 16);
    yard.sheets(40, 66, 6, 1, 1);
    yard.order(0, 1);
    yard.lay(0, 0);
    yard.pass(1);
    Check.same("33 by 40 of 40 by 66", 1, yard.cut(0, 0, 0, 0));
    Check.same("stock", 0, yard.store(0, 5));
    Check.same("from the 33 by 40 that is left", 0, yard.cut(0, 5, 2, 0));
    Check.inVain(yard, "with nothing left", -2, () -> yard.cut(0, 1, 0, 0));
    KeelHouse all = new KeelHouse();
    all.draw(0, 20, 4, 16);
    all.sheets(40, 66, 6, 1, 1);
    all.order(0, 1);
    all.lay(0, 0);
    all.pass(1);
    Check.same("cutAll from one sheet", 2, all.cutAll(0, 0));
    Check.inVain(all, "cutAll with nothing left", 0, () -> all.cutAll(0, 0));
  }
}
