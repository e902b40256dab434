/** Promises 32 to 35: money, cash, audit, isSound, bell, tell, digest. */
public final class BooksTest {
  public static void main(String[] args) {
    months();
    accounts();
    moneyRefuses();
    audits();
    auditsRefuse();
    bells();
    telling();
    Check.end();
  }

  private static void months() {
    KeelHouse yard = new KeelHouse();
    yard.sheets(20, 60, 8, 7, 1);
    yard.pass(29);
    yard.order(0, 1);
    yard.pass(1);
    yard.order(0, 2);
    yard.pass(29);
    yard.order(0, 4);
    yard.pass(1);
    yard.order(0, 8);
    Check.same("day 29", -7, yard.money(0, -1, 0));
    Check.same("days 30 and 59", -42, yard.money(0, -1, 1));
    Check.same("day 60", -56, yard.money(0, -1, 2));
    Check.same("a month without any", 0, yard.money(0, -1, 3));
    Check.same("all months", -105, yard.money(0, -1, 14));
    Check.same("cash", 4895, yard.cash());
    for (int i = 0; i < 11; i++) {
      yard.pass(30);
    }
    yard.pass(10);
    yard.order(0, 300);
    Check.same("day 400", -2100, yard.money(0, -1, 13));
    yard.order(0, 300);
    yard.order(0, 300);
    Check.same("cash may be below 0", 4895 - 6300, yard.cash());
  }

  private static int sum(KeelHouse yard, int account, int ship) {
    int sum = 0;
    for (int month = 0; month < 14; month++) {
      sum += yard.money(account, ship, month);
    }
    return sum;
  }

  private static void sailTo(KeelHouse yard, int port) {
    yard.sail(0, port);
    for (int i = 0; i < 20 && yard.voyage(0, 0) == 1; i++) {
      yard.pass(1);
    }
  }

  private static KeelHouse rich() {
    KeelHouse yard = Yards.ready();
    yard.port(20, 20, 100);
    yard.port(40, 20, 100);
    yard.lot(0, 1, 60, 1, 321);
    yard.lot(1, 0, 40, 2, 500);
    yard.buyer(40, 3, 255 - 4, 20, 3000);
    yard.bid(0, 0, 700);
    yard.bunker(0, 300);
    yard.limit(0, 20);
    yard.pass(4);
    sailTo(yard, 0);
    yard.stow(0, 0, 3);
    sailTo(yard, 1);
    yard.unload(0);
    sailTo(yard, -1);
    yard.pass(30);
    Yards.addBox(yard);
    yard.lay(1, 1);
    yard.draw(2, 70, 9, 60);
    yard.put(2, 500, 3, -5, 30);
    yard.order(0, 10);
    yard.cutAll(1, 0);
    yard.pass(2);
    yard.net(0, 1);
    for (int i = 0; i < 3; i++) {
      yard.bell();
    }
    return yard;
  }

  private static void accounts() {
    KeelHouse yard = rich();
    int all = 0;
    for (int account = 0; account < 9; account++) {
      int ships = yard.money(account, 0, 14) + yard.money(account, 1, 14) + yard.money(account, 2, 14);
      int own = yard.money(account, -1, 14);
      Check.same("account " + account + " of all", own + ships, yard.money(account, 3, 14));
      Check.same("account " + account + " month by month", own + ships, sum(yard, account, 3));
      Check.same("account " + account + " is the yard's or the ships'", true, own == 0 || ships == 0);
      Check.same("steel and wages are the yard's", account < 2, own != 0);
      all += own + ships;
    }
    for (int ship = -1; ship <= 3; ship++) {
      int sum = 0;
      for (int account = 0; account < 9; account++) {
        sum += yard.money(account, ship, 14);
      }
      Check.same("all accounts of " + ship, sum, yard.money(9, ship, 14));
    }
    Check.same("all", all, yard.money(9, 3, 14));
    Check.same("cash", 5000 + all, yard.cash());
    int[] seen = {0, 1, 2, 3, 4, 5, 6, 7};
    for (int account : seen) {
      Check.same("account " + account + " was used", true, yard.money(account, 3, 14) != 0);
    }
    for (int account : new int[] {3, 6}) {
      Check.same("account " + account + " comes in", true, yard.money(account, 3, 14) > 0);
    }
  }

  private static void moneyRefuses() {
    KeelHouse yard = Yards.drawn();
    Check.noIndex(yard, "money(10, 3, 15)", () -> yard.money(10, 3, 15));
    Check.noIndex(yard, "money(-1, 3, 0)", () -> yard.money(-1, 3, 0));
    Check.noIndex(yard, "money(0, 4, 15)", () -> yard.money(0, 4, 15));
    Check.noIndex(yard, "money(0, -2, 0)", () -> yard.money(0, -2, 0));
    Check.noIndex(yard, "money(0, 1, 15) with one ship", () -> yard.money(0, 1, 15));
    Check.badArgument(yard, "money(0, 0, 15)", () -> yard.money(0, 0, 15));
    Check.badArgument(yard, "money(0, 0, -1)", () -> yard.money(0, 0, -1));
    KeelHouse empty = new KeelHouse();
    Check.same("money of all without ships", 0, empty.money(9, 3, 14));
    Check.same("money of the yard without ships", 0, empty.money(9, -1, 14));
    Check.noIndex(empty, "money of 0 without ships", () -> empty.money(9, 0, 14));
  }

  private static void auditsOf(String what, KeelHouse yard, int bells) {
    long d = 58333;
    for (int part = 1; part <= 10; part++) {
      int due = Audits.of(yard, part);
      Check.same("audit(" + part + ") of " + what, due, yard.audit(part));
      d = d * 31 + due;
    }
    d = d * 31 + yard.cash();
    d = d * 31 + bells;
    d = d * 31 + 1;
    Check.same("isSound() of " + what, true, yard.isSound());
    Check.same("digest() of " + what, d, yard.digest());
    Check.same("digest() of " + what + " once more", d, yard.digest());
  }

  private static void audits() {
    auditsOf("a new one", new KeelHouse(), 0);
    auditsOf("one that drew", Yards.drawn(), 0);
    auditsOf("one that lost one", Yards.lost(), 0);
    auditsOf("a rich one", rich(), 3);
    auditsOf("a full one", full(), 0);
    Check.same("two that are alike", rich().digest(), rich().digest());
  }

  /** As many of all as there can be, and a day with that. */
  private static KeelHouse full() {
    KeelHouse yard = Yards.ready();
    Yards.addBox(yard);
    Yards.addBox(yard);
    yard.lay(1, 0);
    yard.lay(2, 1);
    yard.sheets(20, 60, 8, 1, 1);
    yard.sheets(23, 77, 9, 1, 1);
    for (int i = 0; i < 3; i++) {
      yard.order(i, 300);
    }
    yard.pass(1);
    yard.cutAll(1, 1);
    yard.cutAll(2, 2);
    for (int i = 0; i < 6; i++) {
      yard.order(i % 3, 3);
      yard.put(i % 3, 5 + i, i, i, i);
      yard.port(5 * i, 3 * i, 100 + i);
      yard.net(i % 3, 20);
    }
    for (int i = 0; i < 8; i++) {
      yard.lot(i % 6, (i + 1) % 6, 3 + i, i % 3, 10 + i);
    }
    for (int i = 0; i < 4; i++) {
      yard.buyer(30 + i, i, 1 << i, 100, 900);
    }
    for (int i = 0; i < 3; i++) {
      yard.bid(i, i, 300 + i);
      for (int pipe = 0; pipe < 6; pipe++) {
        yard.pipe(i, pipe, 7, 3 + pipe);
      }
    }
    yard.bunker(0, 77);
    yard.sail(0, 3);
    int[] due = {3, 3, 8, 6};
    for (int i = 0; i < 4; i++) {
      Check.same("yard(" + (7 + i) + ") of a full one", due[i], yard.yard(7 + i));
    }
    yard.valve(0, 11);
    Check.same("the last pipe", 1 << 11, yard.engine(0, 5));
    return yard;
  }

  private static void auditsRefuse() {
    KeelHouse yard = new KeelHouse();
    Check.badArgument(yard, "audit(0)", () -> yard.audit(0));
    Check.badArgument(yard, "audit(11)", () -> yard.audit(11));
  }

  private static void bells() {
    KeelHouse yard = new KeelHouse();
    long before = yard.digest();
    Check.same("bell", 1, yard.bell());
    Check.same("bell", 2, yard.bell());
    Check.same("digest behind two bells", before + 2 * 31, yard.digest());
  }

  private static void telling() {
    KeelHouse yard = Yards.drawn();
    Yards.addBox(yard);
    Check.same("tell", "0 drawn", yard.tell(0));
    Check.same("tell", "1 drawn", yard.tell(1));
    yard.lay(1, 1);
    Check.same("tell", "1 slip at 1", yard.tell(1));
    Check.noIndex(yard, "tell(2)", () -> yard.tell(2));
    Check.noIndex(yard, "tell(-1)", () -> yard.tell(-1));
    Check.same("tell", "0 afloat at 3", Yards.afloat().tell(0));
    Check.same("tell", "0 lost", Yards.lost().tell(0));
    KeelHouse ready = Yards.ready();
    Check.same("tell", "0 ready at 3", ready.tell(0));
    ready.port(1, 1, 100);
    ready.sail(0, 0);
    Check.same("tell", "0 ready at sea", ready.tell(0));
    ready.pass(1);
    Check.same("tell", "0 ready at port 0", ready.tell(0));
    ready.sail(0, -1);
    ready.pass(1);
    ready.buyer(20, 0, 0, 10, 300);
    ready.bid(0, 0, 300);
    ready.handOver(0);
    Check.same("tell", "0 sold", ready.tell(0));
  }
}
