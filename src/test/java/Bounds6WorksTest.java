import java.util.EnumSet;

/** Section 6, promises 18 to 20, at their bounds. */
public final class Bounds6WorksTest {
  public static void main(String[] args) throws Exception {
    Bounds.run(Bounds6WorksTest.class);
  }

  private static KeelHouse onSlip() {
    return Place.SLIP.yard();
  }

  private static void planNone(KeelHouse yard, int ship) {
    for (int c = 0; c < 6; c++) {
      yard.plan(ship, c, 0, 0, 0);
    }
  }

  static void promise18TeamsTrade0To2() {
    Bounds.index("teams, trade", KeelHouse::new, 0, 2, (yard, trade) -> yard.teams(trade, 1));
  }

  static void promise18Teams0To6() {
    for (int trade = 0; trade < 3; trade++) {
      int t = trade;
      Bounds.argument("teams of " + t, KeelHouse::new, 0, 6, (yard, teams) -> yard.teams(t, teams));
    }
  }

  static void promise18TeamsOf0And6() {
    KeelHouse yard = Yards.withoutStrakes();
    yard.pass(2);
    Check.same("no team works", 80, yard.job(0, 0, 0));
    Check.same("no team costs", 0, yard.money(1, -1, 14));
    for (int trade = 0; trade < 3; trade++) {
      yard.teams(trade, 6);
    }
    yard.pass(1);
    Check.same("18 teams cost 54", -54, yard.money(1, -1, 14));
    Check.same("two at the keel", 64, yard.job(0, 0, 0));
    for (int trade = 0; trade < 3; trade++) {
      Check.same("teams before", 6, yard.teams(trade, 0));
    }
    yard.pass(1);
    Check.same("no team works again", 64, yard.job(0, 0, 0));
  }

  static void promise18Pass1To30() {
    Bounds.argument("pass", KeelHouse::new, 1, 30, (yard, days) -> yard.pass(days));
    Check.same("30 days", 30, new KeelHouse().pass(30));
  }

  static void promise18PassUpTo400() {
    for (int days = 1; days <= 30; days++) {
      KeelHouse yard = new KeelHouse();
      int over = days;
      for (int i = 0; i < 12; i++) {
        yard.pass(30);
      }
      while (yard.yard(0) < 400 - days + 1) {
        yard.pass(1);
      }
      Check.badState(yard, "pass(" + days + ") to 401", () -> yard.pass(over));
      if (days > 1) {
        Check.same("pass to 400", 400, yard.pass(days - 1));
      }
    }
  }

  static void promise19JobAndWhat() {
    Bounds.index("job", Bounds6WorksTest::onSlip, 0, 23, (yard, job) -> yard.job(0, job, 0));
    Bounds.argument("job, what", Bounds6WorksTest::onSlip, 0, 8, (yard, what) -> yard.job(0, 0, what));
  }

  static void promise19JobOnlyLaidDown() {
    Bounds.onlyAt("job", Place.LAID_DOWN, yard -> yard.job(0, 0, 0));
  }

  static void promise19WorksWhat0To3() {
    Bounds.argument("works", Bounds6WorksTest::onSlip, 0, 3, (yard, what) -> yard.works(0, what));
  }

  static void promise19WorksOnlyLaidDown() {
    Bounds.onlyAt("works", Place.LAID_DOWN, yard -> yard.works(0, 0));
  }

  static void promise20YardWhat0To13() {
    Bounds.argument("yard", KeelHouse::new, 0, 13, (yard, what) -> yard.yard(what));
  }

  static void promise20DoneMore0To3() {
    Bounds.argument("done", Bounds6WorksTest::onSlip, 0, 3, (yard, more) -> yard.done(0, more));
  }

  static void promise20DoneOnlyLaidDown() {
    Bounds.onlyAt("done", Place.LAID_DOWN, yard -> yard.done(0, 0));
  }

  static void promise20DoneOfAllAndOfNone() {
    KeelHouse ready = Place.READY.yard();
    for (int more = 0; more <= 3; more++) {
      Check.same("done of one that is ready", 0, ready.done(0, more));
    }
    KeelHouse lost = Place.LOST.yard();
    Check.same("done of a lost one", -1, lost.done(0, 3));
    KeelHouse rig = Yards.withoutStrakes();
    for (int trade = 0; trade < 3; trade++) {
      rig.teams(trade, 6);
    }
    rig.pass(30);
    Check.same("the rig alone is left", 1 << 23, ~rig.works(0, 1) & (1 << 24) - 1);
    Check.same("done without the rig", 0, rig.done(0, 3));
  }

  /** One team each: from day to day one day less, from 121 on. */
  static void promise20DoneBehind120DaysAnd121() {
    KeelHouse yard = Yards.drawn();
    for (int c = 0; c < 6; c++) {
      yard.plan(0, c, c < 4 ? 6 : 0, c < 3 ? 6 : 0, c < 3 ? 6 : 0);
    }
    yard.lay(0, 0);
    Yards.supply(yard);
    for (int trade = 0; trade < 3; trade++) {
      yard.teams(trade, 1);
    }
    yard.pass(1);
    yard.cutAll(0, 0);
    int days = 0;
    while (yard.done(0, 3) == -1 && days < 60) {
      yard.pass(1);
      days++;
    }
    Check.same("some days were too many", true, days > 0);
    for (int left = 120; left >= 110; left--) {
      Check.same("done", left, yard.done(0, 3));
      yard.pass(1);
    }
    Check.same("nothing was faulty by then", 0, yard.yard(11));
    KeelHouse seven = onSlip();
    seven.teams(0, 6);
    int six = seven.done(0, 3);
    Check.same("a seventh team is faster", true, seven.done(0, 0) < six);
    Check.same("an eighth is none", 6, seven.yard(4));
  }

  static void section6HoursByPlanPowerAndBulkheads() {
    int[] plans = {0, 1, 40};
    int[] powers = {0, 1, 20};
    for (int i = 0; i < 3; i++) {
      KeelHouse yard = new KeelHouse();
      yard.draw(0, 41, 6, 40);
      yard.plan(0, 3, plans[i], plans[i], plans[i]);
      yard.power(0, powers[i]);
      yard.bulkheads(0, new int[] {0, 16, 31}[i]);
      yard.lay(0, 0);
      int[] due = {82, i == 0 ? 0 : 8 + 68, i == 0 ? 0 : 8 + 81, i == 0 ? 0 : 8 + 68, 10 + new int[] {0, 10, 50}[i],
        10 + 12 * powers[i], 41, 36, 20};
      int[] jobs = {0, 10, 11, 12, 19, 20, 21, 22, 23};
      for (int k = 0; k < jobs.length; k++) {
        Check.same("hours of " + jobs[k], due[k], yard.job(0, jobs[k], 0));
        Check.same("done", due[k] == 0 ? 1 : 0, yard.job(0, jobs[k], 2));
        Check.same("length", (due[k] + 7) / 8, yard.job(0, jobs[k], 3));
      }
    }
  }

  /** 160 hours of a keel, by one team: what is left of 8 is a day, of 9 are two. */
  static void section6LengthOfWhatIsLeft() {
    KeelHouse yard = new KeelHouse();
    yard.draw(0, 21, 6, 40);
    yard.lay(0, 0);
    int[] left = {42, 34, 30, 22, 14, 6, 0};
    int[] days = {6, 5, 4, 3, 2, 1, 0};
    yard.teams(0, 1);
    for (int day = 0; day <= 6; day++) {
      Check.same("left on " + day, left[day], yard.job(0, 0, 0));
      Check.same("length on " + day, days[day], yard.job(0, 0, 3));
      yard.pass(1);
    }
  }

  /** One team at a job of 40, 41 or 47 hours: what is more than what is left is lost. */
  static void section6HoursThatAreLost() {
    int[] lengths = {20, 21, 22, 23, 24};
    int[] lost = {0, 6, 4, 2, 0};
    for (int i = 0; i < 5; i++) {
      KeelHouse yard = new KeelHouse();
      yard.draw(0, lengths[i], 6, 40);
      yard.lay(0, 0);
      while (yard.yard(0) < 2) {
        yard.pass(1);
      }
      yard.teams(0, 1);
      yard.pass(8);
      Check.same("the keel of " + lengths[i] + " is done", 1, yard.job(0, 0, 2));
      Check.same("worked", 2 * lengths[i], yard.yard(12));
      Check.same("lost", lost[i], yard.yard(13));
    }
  }

  /** In rain platers work 4 hours, fitters 8, painters none; a team without a job, or that rests, loses none. */
  static void section6RainAndTeamsWithoutAJob() {
    for (int trade = 0; trade < 3; trade++) {
      KeelHouse yard = Yards.withoutStrakes();
      yard.pass(1);
      yard.teams(trade, 6);
      yard.pass(1);
      Check.same("weather", 1, yard.yard(1));
      Check.same("worked by the trade " + trade, new int[] {8, 32, 0}[trade], yard.yard(12));
      Check.same("lost", 0, yard.yard(13));
    }
  }

  /** Keel, a bottom, 19, 20 and 22 come first: the wires are the sixth job, with a luck of 2. */
  private static KeelHouse wiresAreTheSixth(int length) {
    KeelHouse yard = new KeelHouse();
    yard.draw(0, length, 6, 40);
    planNone(yard, 0);
    yard.plan(0, 5, 6, 0, 0);
    yard.lay(0, 0);
    yard.sheets(20, 60, 6, 1, 1);
    yard.order(0, 300);
    yard.teams(0, 6);
    yard.teams(2, 6);
    yard.pass(1);
    yard.cutAll(0, 0);
    yard.pass(20);
    yard.teams(1, 6);
    yard.pass(1);
    Check.same("19 and 20 are done, and the luck was asked five times", 17, yard.yard(3));
    yard.teams(1, 1);
    for (int i = 0; i < 60 && yard.yard(11) == 0; i++) {
      yard.pass(1);
    }
    return yard;
  }

  /** A quarter of 40 is 10, of 41 to 44 it is 11; what was more than was left is lost then, too. */
  static void section6FaultyIsAQuarterUpToAWholeNumber() {
    for (int length = 40; length <= 45; length++) {
      KeelHouse yard = wiresAreTheSixth(length);
      Check.same("luck", 2, yard.yard(3));
      Check.same("faults", 1, yard.yard(11));
      Check.same("the wires are faulty", 1, yard.job(0, 21, 7));
      Check.same("they are not done", 0, yard.job(0, 21, 2));
      Check.same("left of " + length, length / 4 + (length % 4 > 0 ? 1 : 0), yard.job(0, 21, 0));
      int hours = 2 * length + 8 + (length * 10 / 6) + 10 + 10 + 36 + length;
      Check.same("worked", hours, yard.yard(12));
      int before = yard.yard(13);
      yard.pass(2);
      Check.same("done then", 1, yard.job(0, 21, 2));
      Check.same("luck is not asked any more", 2, yard.yard(3));
      Check.same("it is told as faulty still", 1, yard.job(0, 21, 7));
      int left = length / 4 + (length % 4 > 0 ? 1 : 0);
      Check.same("lost", before + 16 - left, yard.yard(13));
    }
  }

  /** The sixth, the 21st and the 32nd have a luck below 3; the 19th has one of 3. */
  static void section6LuckOf2And3() {
    int[] luck = new int[40];
    for (int i = 1; i < 40; i++) {
      luck[i] = (13 * luck[i - 1] + 5) % 32;
    }
    Check.same("the sixth", 2, luck[6]);
    Check.same("the 19th", 3, luck[19]);
    Check.same("the 32nd", 0, luck[32]);
    KeelHouse yard = new KeelHouse();
    Yards.addBox(yard);
    yard.draw(0, 40, 6, 40);
    planNone(yard, 1);
    yard.draw(0, 40, 6, 40);
    planNone(yard, 2);
    yard.lay(0, 0);
    yard.lay(1, 1);
    Yards.supply(yard);
    yard.pass(1);
    yard.cutAll(0, 0);
    int most = 0;
    for (int day = 0; day < 120; day++) {
      yard.pass(1);
      Check.made(() -> yard.launch(0));
      Check.made(() -> yard.launch(1));
      Check.made(() -> yard.lay(2, 0));
      int many = 0;
      for (int ship = 0; ship < 3 && yard.hull(ship, 3) > 0; ship++) {
        for (int job = 0; job < 24; job++) {
          boolean isPlate = ship > 0 && job >= 1 && job <= 18;
          many += !isPlate && (yard.job(ship, job, 2) == 1 || yard.job(ship, job, 7) == 1) ? 1 : 0;
        }
      }
      int faults = 0;
      for (int i = 1; i <= many; i++) {
        faults += luck[i] < 3 ? 1 : 0;
      }
      Check.same("luck behind " + many, luck[many], yard.yard(3));
      Check.same("faults behind " + many, faults, yard.yard(11));
      most = many;
    }
    Check.same("so many jobs were done", true, most >= 35);
  }

  /** Of slacks that are alike the smallest ship, and of that the smallest job, with two teams at most. */
  static void section6SlacksThatAreAlike() {
    int[][] due = {{80, 80}, {72, 80}, {64, 80}, {64, 72}, {64, 64}, {64, 64}};
    for (int teams = 0; teams <= 5; teams++) {
      KeelHouse alike = new KeelHouse();
      for (int ship = 0; ship < 2; ship++) {
        alike.draw(0, 40, 6, 40);
      }
      alike.lay(1, 0);
      alike.lay(0, 1);
      alike.teams(0, teams);
      alike.pass(1);
      Check.same("the keel of 0 with " + teams, due[teams][0], alike.job(0, 0, 0));
      Check.same("the keel of 1 with " + teams, due[teams][1], alike.job(1, 0, 0));
    }
    jobsThatAreAlike();
  }

  private static void jobsThatAreAlike() {
    KeelHouse yard = new KeelHouse();
    yard.draw(0, 40, 6, 40);
    yard.lay(0, 0);
    Yards.supply(yard);
    yard.teams(1, 0);
    yard.pass(1);
    yard.pass(5);
    Check.same("the keel is done", 1, yard.job(0, 0, 2));
    for (int c = 3; c < 6; c++) {
      yard.cut(0, c, 0, 0);
    }
    Check.same("slacks of 3 and 4", yard.job(0, 10, 6), yard.job(0, 13, 6));
    Check.same("slacks of 4 and 5", yard.job(0, 13, 6), yard.job(0, 16, 6));
    yard.teams(0, 3);
    yard.pass(1);
    Check.same("two at 3", 74 - 16, yard.job(0, 10, 0));
    Check.same("one at 4", 74 - 8, yard.job(0, 13, 0));
    Check.same("none at 5", 74, yard.job(0, 16, 0));
  }

  /** The one with less slack goes first, though it is of the second ship and has a greater number. */
  static void section6SmallestSlackGoesFirst() {
    KeelHouse yard = new KeelHouse();
    yard.draw(0, 40, 6, 40);
    planNone(yard, 0);
    yard.draw(0, 40, 6, 40);
    planNone(yard, 1);
    yard.power(1, 1);
    yard.lay(0, 0);
    yard.teams(1, 2);
    yard.pass(4);
    Check.same("the wires of 0 are done", 1, yard.job(0, 21, 2));
    Check.same("its bulkheads are not", 2, yard.job(0, 19, 0));
    yard.lay(1, 1);
    yard.teams(1, 1);
    Check.same("the slack of its bulkheads is more", true, yard.job(0, 19, 6) > yard.job(1, 20, 6));
    yard.pass(1);
    Check.same("the engine of 1 goes first", 22 - 8, yard.job(1, 20, 0));
    Check.same("the bulkheads of 0 wait", 2, yard.job(0, 19, 0));
    Check.same("the bulkheads of 1 wait, too", 10, yard.job(1, 19, 0));
  }

  /** A keel with 8 hours left and 3 teams: the next ones go on with a bottom the same day. */
  static void section6WhatOneTeamDoesCountsForTheNext() {
    KeelHouse yard = Yards.drawn();
    yard.lay(0, 0);
    Yards.supply(yard);
    yard.pass(1);
    yard.cutAll(0, 0);
    yard.pass(4);
    Check.same("left of the keel", 8, yard.job(0, 0, 0));
    yard.teams(0, 3);
    yard.pass(1);
    Check.same("the keel is done", 1, yard.job(0, 0, 2));
    Check.same("two at the bottom of 0", 74 - 16, yard.job(0, 1, 0));
  }

  static void section6StrakesThatAreBareWait() {
    KeelHouse yard = onSlip();
    yard.pass(10);
    Check.same("the keel is done", 1, yard.job(0, 0, 2));
    int worked = yard.yard(12);
    yard.teams(1, 0);
    yard.pass(1);
    Check.same("bare ones are not worked at", worked, yard.yard(12));
    yard.cut(0, 2, 1, 0);
    yard.pass(1);
    Check.same("sides wait for their bottom", worked, yard.yard(12));
    yard.cut(0, 2, 0, 0);
    yard.pass(1);
    Check.same("what is cut is worked at", true, yard.job(0, 7, 0) < 74);
    Check.same("it is begun: nothing is thrown away of it", 1, yard.scrap(0));
    yard.pass(1);
    Check.same("what is begun is worked at", true, yard.job(0, 7, 0) <= 74 - 16);
  }

  /** The deck of 1 waits for the engine, too. */
  static void section6DeckOfTheEnginesCompartmentWaits() {
    KeelHouse yard = Yards.drawn();
    planNone(yard, 0);
    yard.plan(0, 1, 0, 0, 6);
    yard.plan(0, 2, 0, 0, 6);
    yard.lay(0, 0);
    Yards.supply(yard);
    yard.teams(1, 0);
    yard.pass(1);
    yard.cutAll(0, 0);
    yard.pass(20);
    Check.same("the deck of 2 is done", 1, yard.job(0, 9, 2));
    Check.same("the deck of 1 waits", 74, yard.job(0, 6, 0));
    yard.teams(1, 2);
    while (yard.job(0, 20, 2) == 0) {
      Check.same("it waits still", 74, yard.job(0, 6, 0));
      yard.pass(1);
    }
    yard.pass(2);
    Check.same("then it is worked at", true, yard.job(0, 6, 0) < 74);
  }

  static void section6RigOnlyAfloat() {
    KeelHouse yard = Yards.withoutStrakes();
    for (int trade = 0; trade < 3; trade++) {
      yard.teams(trade, 6);
    }
    yard.pass(30);
    Check.same("the rig waits on the slip", 20, yard.job(0, 23, 0));
    Yards.calm(yard, 40);
    yard.launch(0);
    while (yard.yard(1) == 7 || (5 * yard.yard(1) + 3) % 16 < 5) {
      yard.pass(1);
    }
    yard.pass(1);
    Check.same("afloat two teams are at it", true, yard.job(0, 23, 0) <= 4);
  }

  static void section6WorkOnTheSlipAndAfloatAlone() {
    EnumSet<Place> places = EnumSet.of(Place.SLIP, Place.AFLOAT, Place.AFLOAT_IN_DOCK);
    for (Place place : Place.values()) {
      if (place == Place.WAITING) {
        continue;
      }
      KeelHouse yard = place.yard();
      if (place == Place.SLIP) {
        yard.cutAll(0, 0);
      }
      int before = yard.yard(12);
      yard.pass(4);
      Check.same("hours are worked at " + place, places.contains(place), yard.yard(12) > before);
    }
  }

  private static int days(KeelHouse yard, int job) {
    return (yard.job(0, job, 0) + 7) / 8;
  }

  private static int early(KeelHouse yard, int job) {
    int most = 0;
    for (int before = 0; before < 24; before++) {
      if ((yard.job(0, job, 8) >> before & 1) == 1) {
        most = Math.max(most, early(yard, before) + days(yard, before));
      }
    }
    return most;
  }

  private static int late(KeelHouse yard, int job, int end) {
    int least = end;
    for (int behind = 0; behind < 24; behind++) {
      if ((yard.job(0, behind, 8) >> job & 1) == 1) {
        least = Math.min(least, late(yard, behind, end));
      }
    }
    return least - days(yard, job);
  }

  /** By each compartment one strake takes longer than those of the others do. */
  static void section6EarlyLateAndSlackOfEachJob() {
    for (int c = 0; c < 6; c++) {
      for (int strake = 0; strake < 3; strake++) {
        KeelHouse yard = Yards.drawn();
        planNone(yard, 0);
        yard.plan(0, c, strake == 0 ? 6 : 0, strake == 1 ? 6 : 0, strake == 2 ? 6 : 0);
        yard.lay(0, 0);
        int end = 0;
        for (int job = 0; job < 24; job++) {
          end = Math.max(end, early(yard, job) + days(yard, job));
        }
        Check.same("end", end, yard.works(0, 0));
        int critical = 0;
        for (int job = 0; job < 24; job++) {
          int early = early(yard, job);
          int late = late(yard, job, end);
          Check.same("early of " + job, early, yard.job(0, job, 4));
          Check.same("late of " + job, late, yard.job(0, job, 5));
          Check.same("slack of " + job, late - early, yard.job(0, job, 6));
          critical |= late == early && yard.job(0, job, 2) == 0 ? 1 << job : 0;
        }
        Check.same("critical", critical, yard.works(0, 2));
      }
    }
  }

  /** The bulkheads of 0 have 7 days of slack and could begin; the engine of 1 has none, though it begins on day 10. */
  static void section6SlackIsLateLessEarly() {
    KeelHouse yard = new KeelHouse();
    yard.draw(0, 40, 6, 40);
    planNone(yard, 0);
    yard.draw(0, 40, 6, 40);
    planNone(yard, 1);
    yard.power(1, 1);
    yard.lay(0, 0);
    yard.teams(1, 2);
    yard.pass(4);
    yard.teams(1, 0);
    yard.teams(0, 2);
    yard.pass(8);
    Check.same("the keel of 0 is done", 1, yard.job(0, 0, 2));
    yard.teams(0, 0);
    yard.lay(1, 1);
    yard.teams(1, 1);
    Check.same("slack of the bulkheads of 0", 7, yard.job(0, 19, 6));
    Check.same("early of them", 0, yard.job(0, 19, 4));
    Check.same("slack of the engine of 1", 0, yard.job(1, 20, 6));
    Check.same("early of it", 10, yard.job(1, 20, 4));
    yard.pass(1);
    Check.same("the engine of 1 goes first", 22 - 8, yard.job(1, 20, 0));
    Check.same("the bulkheads of 0 wait", 2, yard.job(0, 19, 0));
  }

  /** Where one team works at what takes longest a second one makes it faster; a seventh of another trade does not. */
  static void promise20DoneWithATeamMoreOfEachTrade() {
    for (int trade = 0; trade < 3; trade++) {
      KeelHouse yard = new KeelHouse();
      yard.draw(0, 40, 6, 40);
      planNone(yard, 0);
      yard.bulkheads(0, trade == 1 ? 31 : 0);
      yard.lay(0, 0);
      for (int other = 0; other < 3; other++) {
        yard.teams(other, other == trade ? 1 : 6);
      }
      if (trade == 2) {
        yard.teams(0, 6);
        yard.teams(1, 6);
        yard.teams(2, 0);
        yard.pass(20);
        yard.teams(2, 1);
      }
      int alone = yard.done(0, 3);
      for (int more = 0; more < 3; more++) {
        int days = yard.done(0, more);
        Check.same("one more of " + more + " with few of " + trade, more == trade, days < alone);
        yard.teams(more, yard.yard(4 + more) < 6 ? yard.yard(4 + more) + 1 : 6);
        if (more == trade) {
          Check.same("as with so many", days, yard.done(0, 3));
          yard.teams(more, 1);
        }
      }
    }
  }

  /** Nothing is faulty in it, however often it is asked: it is told as before. */
  static void promise20DoneAsOftenAsIsAsked() {
    KeelHouse yard = Yards.withoutStrakes();
    for (int trade = 0; trade < 3; trade++) {
      yard.teams(trade, 1);
    }
    int days = yard.done(0, 3);
    for (int i = 0; i < 40; i++) {
      Check.same("done", days, yard.done(0, 3));
    }
    KeelHouse six = onSlip();
    days = six.done(0, 3);
    for (int i = 0; i < 20; i++) {
      Check.same("done of all jobs", days, six.done(0, 3));
    }
  }

  static void section6JobsBeforeEachJob() {
    KeelHouse yard = onSlip();
    int bottoms = 1 << 1 | 1 << 4 | 1 << 7 | 1 << 10 | 1 << 13 | 1 << 16;
    for (int job = 0; job < 24; job++) {
      int due = job == 0 ? 0 : job > 18 ? 0 : job % 3 == 1 ? 1 : 1 << job - 1;
      switch (job) {
        case 6: due |= 1 << 20; break;
        case 19: due = bottoms; break;
        case 20: due = 1 << 1 | 1 << 4 | 1 << 7; break;
        case 21: due = bottoms << 1 | 1 << 20; break;
        case 22: due = bottoms << 2; break;
        case 23: due = 1 << 21 | 1 << 22; break;
        default: break;
      }
      Check.same("before " + job, due, yard.job(0, job, 8));
      Check.same("trade of " + job, job <= 18 ? 0 : job <= 21 ? 1 : 2, yard.job(0, job, 1));
    }
  }

  static void section6TeamsOfEachTradeCost() {
    KeelHouse yard = new KeelHouse();
    yard.teams(0, 1);
    yard.pass(1);
    Check.same("one plater", -3, yard.money(1, -1, 14));
    yard.teams(1, 2);
    yard.pass(1);
    Check.same("and two fitters", -3 - 9, yard.money(1, -1, 14));
    yard.teams(2, 4);
    yard.pass(1);
    Check.same("and four painters", -3 - 9 - 21, yard.money(1, -1, 14));
  }
}
