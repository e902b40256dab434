import java.util.EnumSet;

/** Section 10, promises 32 to 35, at their bounds. */
public final class Bounds10BooksTest {
  public static void main(String[] args) throws Exception {
    Bounds.run(Bounds10BooksTest.class);
  }

  static void promise32MoneyAccount0To9() {
    Bounds.index("money, account", KeelHouse::new, 0, 9, (yard, account) -> yard.money(account, 3, 14));
  }

  static void promise32MoneyMonth0To14() {
    Bounds.argument("money, month", KeelHouse::new, 0, 14, (yard, month) -> yard.money(9, -1, month));
  }

  static void promise32MoneyShipMinus1To3ThatIsThere() {
    KeelHouse yard = new KeelHouse();
    for (int many = 0; many <= 3; many++) {
      for (int ship = -1; ship <= 3; ship++) {
        int s = ship;
        if (ship < many || ship == 3) {
          Check.same("money of " + ship + " with " + many, 0, yard.money(9, ship, 14));
        } else {
          Check.noIndex(yard, "money of " + ship + " with " + many, () -> yard.money(9, s, 14));
        }
      }
      for (int ship : new int[] {-2, 4, Integer.MIN_VALUE, Integer.MAX_VALUE}) {
        Check.noIndex(yard, "money of " + ship, () -> yard.money(9, ship, 14));
      }
      if (many < 3) {
        yard.draw(0, 40, 6, 40);
      }
    }
  }

  /** Each day's order is booked in the month of that day. */
  static void section10MonthsOfDays() {
    KeelHouse yard = new KeelHouse();
    yard.sheets(20, 60, 8, 1, 1);
    int[] due = new int[14];
    for (int day = 0; day <= 400; day++) {
      boolean isEdge = day % 30 == 0 || day % 30 == 29 || day == 400;
      if (isEdge) {
        yard.order(0, 1 + day % 30);
        due[day / 30] -= 1 + day % 30;
      }
      if (day < 400) {
        yard.pass(1);
      }
    }
    int all = 0;
    for (int month = 0; month < 14; month++) {
      Check.same("month " + month, due[month], yard.money(0, -1, month));
      Check.same("month " + month + " of all", due[month], yard.money(9, 3, month));
      all += due[month];
    }
    Check.same("all of them", all, yard.money(0, -1, 14));
    Check.same("cash", 5000 + all, yard.cash());
  }

  static void section10CashOf0AndBelow() {
    KeelHouse yard = new KeelHouse();
    yard.sheets(20, 60, 8, 50, 1);
    yard.order(0, 100);
    Check.same("cash of 0", 0, yard.cash());
    yard.order(0, 1);
    Check.same("cash below 0", -50, yard.cash());
    Check.same("sound", true, yard.isSound());
  }

  static void promise33AuditPart1To10() {
    Bounds.argument("audit", KeelHouse::new, 1, 10, (yard, part) -> yard.audit(part));
    Bounds.argument("audit", Place.SOLD::yard, 1, 10, (yard, part) -> yard.audit(part));
  }

  static void promise33AuditOfNothing() {
    KeelHouse yard = new KeelHouse();
    int[] alone = {1, 2, 3, 4, 7, 8, 9};
    for (int part : alone) {
      Check.same("audit(" + part + ")", part, yard.audit(part));
    }
    int e = 5;
    for (int spot = 0; spot < 6; spot++) {
      e = e * 31 - 1;
    }
    Check.same("audit(5)", e, yard.audit(5));
    e = 6;
    int[] told = {0, 7, 44, 0, 0, 0, 0, 0, 0, 0, 0, 0, 0, 0};
    for (int v : told) {
      e = e * 31 + v;
    }
    Check.same("audit(6)", e, yard.audit(6));
    e = 10;
    for (int account = 0; account <= 8; account++) {
      e = e * 31;
    }
    Check.same("audit(10)", e * 31 + 5000, yard.audit(10));
  }

  /** 39 numbers of a ship make far more than an int holds. */
  static void promise33AuditWrapsAround() {
    for (int many = 1; many <= 3; many++) {
      KeelHouse yard = new KeelHouse();
      java.math.BigInteger e = java.math.BigInteger.ONE;
      for (int ship = 0; ship < many; ship++) {
        yard.draw(ship, 40 + ship, 6, 40);
        for (int what = 0; what <= 134; what += what == 3 ? 97 : 1) {
          e = e.multiply(java.math.BigInteger.valueOf(31)).add(java.math.BigInteger.valueOf(yard.hull(ship, what)));
        }
      }
      Check.same("it is more than a long holds", true, e.bitLength() > 100);
      Check.same("audit(1) with " + many, e.intValue(), yard.audit(1));
    }
  }

  /** What leans to port, lies by the stern: 64 times that is cut towards 0. */
  static void promise33AuditCutsTowards0() {
    KeelHouse yard = new KeelHouse();
    yard.draw(0, 40, 6, 40);
    yard.put(0, 333, 0, -7, 3);
    int e = 2;
    for (int what = 0; what <= 8; what++) {
      double told = 64.0 * yard.floats(0, what);
      int cut = (int) (Math.signum(told) * Math.floor(Math.abs(told)));
      e = e * 31 + cut;
    }
    Check.same("tcg is below 0", true, yard.floats(0, 2) < 0.0);
    Check.same("trim is below 0", true, yard.floats(0, 7) < 0.0);
    Check.same("audit(2)", e * 31 + yard.survives(0), yard.audit(2));
  }

  static void promise33AuditOfWorksLeavesOutWhatIsDrawn() {
    for (Place place : EnumSet.of(Place.DRAWN, Place.SLIP, Place.LOST, Place.SOLD)) {
      KeelHouse yard = place.yard();
      int e = 6;
      for (int what = 0; what <= 13; what++) {
        e = e * 31 + yard.yard(what);
      }
      for (int what = 0; what <= 3 && place != Place.DRAWN; what++) {
        e = e * 31 + yard.works(0, what);
      }
      Check.same("audit(6) at " + place, e, yard.audit(6));
    }
  }

  static void promise34IsSoundAtEachPlace() {
    for (Place place : Place.values()) {
      KeelHouse yard = place.yard();
      Check.same("isSound() at " + place, true, yard.isSound());
      yard.bell();
      yard.pass(3);
      Check.same("isSound() at " + place + " later", true, yard.isSound());
    }
  }

  static void promise34BellCounts() {
    KeelHouse yard = new KeelHouse();
    int cash = yard.cash();
    for (int i = 1; i <= 20; i++) {
      Check.same("bell", i, yard.bell());
    }
    Check.same("it costs nothing", cash, yard.cash());
    yard.pass(1);
    Check.same("bell on another day", 21, yard.bell());
  }

  static void promise35TellAtEachPlace() {
    for (Place place : Place.values()) {
      Check.same("tell(0)", place.told(), place.yard().tell(0));
    }
    KeelHouse three = new KeelHouse();
    for (int ship = 0; ship < 3; ship++) {
      three.draw(0, 40, 6, 40);
      Check.same("tell", ship + " drawn", three.tell(ship));
    }
    three.lay(2, 1);
    Check.same("tell", "2 slip at 1", three.tell(2));
  }

  static void promise35DigestWrapsAround() {
    for (Place place : Place.values()) {
      KeelHouse yard = place.yard();
      yard.bell();
      java.math.BigInteger d = java.math.BigInteger.valueOf(58333);
      long[] row = new long[13];
      for (int part = 1; part <= 10; part++) {
        row[part - 1] = yard.audit(part);
      }
      row[10] = yard.cash();
      row[11] = 1;
      row[12] = 1;
      for (long v : row) {
        d = d.multiply(java.math.BigInteger.valueOf(31)).add(java.math.BigInteger.valueOf(v));
      }
      Check.same("it is more than a long holds", true, d.bitLength() > 63);
      Check.same("digest() at " + place, d.longValue(), yard.digest());
    }
  }

  static void promise35DigestGoesByEachBell() {
    KeelHouse yard = new KeelHouse();
    long before = yard.digest();
    yard.bell();
    Check.same("digest()", before + 31, yard.digest());
    yard.order(yard.sheets(20, 60, 8, 1, 1), 1);
    Check.same("it is another one then", false, before + 31 == yard.digest());
  }

  /** As it is it floats, by plan it would not: that is told of it as it is. */
  static void promise33AuditOfStrengthGoesByWhatItIs() {
    KeelHouse yard = new KeelHouse();
    yard.draw(0, 40, 6, 40);
    yard.put(0, 900, 0, 0, 0);
    yard.put(0, 900, 5, 0, 0);
    yard.put(0, 600, 2, 0, 0);
    Check.same("as it is", 0, yard.weakest(0, false));
    Check.same("by plan", -1, yard.weakest(0, true));
    int e = 3;
    for (int at = 0; at < 36; at++) {
      e = e * 31 + yard.strake(0, at / 6, at % 6);
    }
    Check.same("audit(3)", e * 31, yard.audit(3));
  }

  static void promise33AuditOfEachPartAtEachPlace() {
    for (Place place : Place.values()) {
      KeelHouse yard = place.yard();
      yard.sheets(23, 77, 9, 2, 3);
      yard.order(1, 7);
      yard.lot(1, 0, 20, 1, 30);
      yard.buyer(30, 5, 3, 100, 900);
      for (int part = 1; part <= 10; part++) {
        Check.same("audit(" + part + ") at " + place, Audits.of(yard, part), yard.audit(part));
      }
    }
  }
}
