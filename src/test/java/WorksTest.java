/** Promises 18 to 20: teams, pass, job, works, yard, done. */
public final class WorksTest {
  public static void main(String[] args) {
    teams();
    days();
    hours();
    network();
    worksRefuse();
    keel();
    lostHours();
    choice();
    painters();
    twoShips();
    faults();
    rigOnlyAfloat();
    forecast();
    forecastOfBare();
    forecastOfMany();
    forecastRefuses();
    Check.end();
  }

  private static void teams() {
    KeelHouse yard = new KeelHouse();
    for (int trade = 0; trade < 3; trade++) {
      Check.same("teams", 0, yard.teams(trade, 6 - trade));
      Check.same("yard " + (4 + trade), 6 - trade, yard.yard(4 + trade));
      Check.same("teams", 6 - trade, yard.teams(trade, 0));
      yard.teams(trade, 1 + trade);
    }
    Check.noIndex(yard, "teams of 3", () -> yard.teams(3, 7));
    Check.noIndex(yard, "teams of -1", () -> yard.teams(-1, 0));
    Check.badArgument(yard, "7 teams", () -> yard.teams(0, 7));
    Check.badArgument(yard, "-1 teams", () -> yard.teams(0, -1));
    yard.pass(2);
    Check.same("wages of the yard", -3 * 6 * 2, yard.money(1, -1, 0));
  }

  private static void days() {
    KeelHouse yard = new KeelHouse();
    int weather = 7;
    for (int day = 1; day <= 20; day++) {
      Check.same("pass(1)", day, yard.pass(1));
      weather = (5 * weather + 3) % 16;
      Check.same("weather of " + day, weather, yard.yard(1));
      Check.same("day", day, yard.yard(0));
    }
    Check.badArgument(yard, "pass(0)", () -> yard.pass(0));
    Check.badArgument(yard, "pass(31)", () -> yard.pass(31));
    Check.same("pass(30)", 50, yard.pass(30));
    for (int i = 0; i < 11; i++) {
      yard.pass(30);
    }
    Check.same("pass(19)", 399, yard.pass(19));
    Check.badState(yard, "pass(2) on 399", () -> yard.pass(2));
    Check.badArgument(yard, "pass(31) on 399", () -> yard.pass(31));
    Check.same("pass(1) on 399", 400, yard.pass(1));
    Check.badState(yard, "pass(1) on 400", () -> yard.pass(1));
    Check.badArgument(yard, "yard(14)", () -> yard.yard(14));
    Check.badArgument(yard, "yard(-1)", () -> yard.yard(-1));
  }

  private static int hoursOf(int job) {
    return job == 0 ? 80 : job <= 18 ? job % 3 == 2 ? 87 : 74 : new int[] {60, 130, 40, 36, 20}[job - 19];
  }

  private static int before(int job) {
    if (job == 0) {
      return 0;
    }
    if (job <= 18) {
      return job % 3 == 1 ? 1 : job == 6 ? 1 << 5 | 1 << 20 : 1 << job - 1;
    }
    int[] sets = {0x12492, 1 << 1 | 1 << 4 | 1 << 7, 1 << 20 | 0x24924, 0x49248, 1 << 21 | 1 << 22};
    return sets[job - 19];
  }

  private static void hours() {
    KeelHouse yard = Yards.drawn();
    yard.plan(0, 2, 0, 6, 6);
    yard.lay(0, 0);
    for (int job = 0; job < 24; job++) {
      int due = job == 7 ? 0 : hoursOf(job);
      Check.same("hours of " + job, due, yard.job(0, job, 0));
      Check.same("trade of " + job, job <= 18 ? 0 : job <= 21 ? 1 : 2, yard.job(0, job, 1));
      Check.same("done of " + job, job == 7 ? 1 : 0, yard.job(0, job, 2));
      Check.same("length of " + job, (due + 7) / 8, yard.job(0, job, 3));
      Check.same("faulty of " + job, 0, yard.job(0, job, 7));
      Check.same("before " + job, before(job), yard.job(0, job, 8));
    }
    Check.same("jobs done", 1 << 7, yard.works(0, 1));
    Check.same("hours left", 1776 - 74, yard.works(0, 3));
    yard.bulkheads(0, 0);
    Check.same("hours of bulkheads are told as it was laid down", 60, yard.job(0, 19, 0));
  }

  private static void network() {
    KeelHouse yard = Yards.drawn();
    yard.lay(0, 0);
    Check.same("end", 55, yard.works(0, 0));
    Check.same("critical", 1 | 1 << 1 | 1 << 4 | 1 << 7 | 1 << 20 | 1 << 6 | 1 << 22 | 1 << 23, yard.works(0, 2));
    Check.same("hours left", 1776, yard.works(0, 3));
    int[][] due = {
      {0, 0, 0, 0}, {1, 10, 10, 0}, {10, 10, 16, 6}, {2, 20, 26, 6}, {3, 31, 37, 6}, {6, 37, 37, 0}, {19, 20, 47, 27},
      {20, 20, 20, 0}, {21, 37, 47, 10}, {22, 47, 47, 0}, {23, 52, 52, 0}};
    for (int[] d : due) {
      for (int what = 4; what <= 6; what++) {
        Check.same("job(0, " + d[0] + ", " + what + ")", d[what - 3], yard.job(0, d[0], what));
      }
    }
    KeelHouse built = Yards.built();
    Check.same("what is done has no slack but is not critical", 0, built.works(0, 2) & (1 << 20) - 1);
    KeelHouse ready = Yards.ready();
    Check.same("end of what is done", 0, ready.works(0, 0));
    Check.same("all are done", (1 << 24) - 1, ready.works(0, 1));
    Check.same("nothing is critical", 0, ready.works(0, 2));
    Check.same("no hours are left", 0, ready.works(0, 3));
  }

  private static void worksRefuse() {
    KeelHouse yard = Yards.drawn();
    Check.badState(yard, "job of a drawn one", () -> yard.job(0, 0, 0));
    Check.badArgument(yard, "job 9 of a drawn one", () -> yard.job(0, 0, 9));
    Check.noIndex(yard, "job(0, 24, 9)", () -> yard.job(0, 24, 9));
    Check.noIndex(yard, "job(0, -1, 9)", () -> yard.job(0, -1, 9));
    Check.noIndex(yard, "job(1, 0, 9)", () -> yard.job(1, 0, 9));
    Check.badArgument(yard, "job(0, 0, -1)", () -> yard.job(0, 0, -1));
    Check.badState(yard, "works of a drawn one", () -> yard.works(0, 0));
    Check.badArgument(yard, "works(0, 4)", () -> yard.works(0, 4));
    Check.badArgument(yard, "works(0, -1)", () -> yard.works(0, -1));
    Check.noIndex(yard, "works(1, 4)", () -> yard.works(1, 4));
    KeelHouse lost = Yards.lost();
    Check.same("a lost one was laid down", (1 << 20) - 1, lost.works(0, 1) & (1 << 20) - 1);
  }

  /** It rains on the days 2, 11, 12, 13 and 15. */
  private static void keel() {
    KeelHouse yard = Yards.drawn();
    yard.lay(0, 0);
    yard.teams(0, 6);
    int[] left = {80, 64, 56, 40, 24, 8, 0};
    for (int day = 1; day <= 6; day++) {
      yard.pass(1);
      Check.same("hours left of the keel on " + day, left[day], yard.job(0, 0, 0));
    }
    Check.same("it is done", 1, yard.job(0, 0, 2));
    Check.same("luck", 5, yard.yard(3));
    Check.same("worked", 80, yard.yard(12));
    Check.same("lost", 0, yard.yard(13));
    yard.pass(4);
    Check.same("bare strakes are not worked at", 80, yard.yard(12));
  }

  private static void lostHours() {
    KeelHouse yard = new KeelHouse();
    yard.draw(0, 41, 6, 40);
    yard.lay(0, 0);
    yard.teams(0, 2);
    yard.pass(5);
    Check.same("left", 10, yard.job(0, 0, 0));
    yard.pass(1);
    Check.same("left", 0, yard.job(0, 0, 0));
    Check.same("worked", 82, yard.yard(12));
    Check.same("lost", 6, yard.yard(13));
  }

  /** The least slack first, then the smallest job, and two teams at most. */
  private static void choice() {
    KeelHouse yard = Yards.drawn();
    yard.lay(0, 0);
    Yards.supply(yard);
    yard.pass(1);
    yard.cutAll(0, 0);
    yard.pass(4);
    Check.same("keel", 8, yard.job(0, 0, 0));
    yard.teams(0, 5);
    yard.pass(1);
    int[] due = {58, 58, 74, 74, 74, 74};
    for (int c = 0; c < 6; c++) {
      Check.same("bottom " + c + ": one team ended the keel, two and two go on", due[c], yard.job(0, 1 + 3 * c, 0));
    }
    Check.same("begun ones are not cut any more", 16, yard.scrap(0));
    KeelHouse shut = Yards.onSlip();
    shut.cut(0, 5, 0, 0);
    shut.cut(0, 5, 1, 0);
    shut.pass(8);
    Check.same("sides wait for their bottom", 87, shut.job(0, 17, 0));
    Check.same("the bottom of 5 is worked at alone", true, shut.job(0, 16, 0) < 74);
  }

  private static void painters() {
    KeelHouse yard = Yards.drawn();
    for (int c = 0; c < 6; c++) {
      yard.plan(0, c, 0, 0, 0);
    }
    yard.lay(0, 0);
    yard.teams(2, 1);
    yard.teams(1, 1);
    Check.same("weather", 7, yard.yard(1));
    int paint = 36;
    int engine = 130 + 60;
    int lost = 0;
    for (int day = 1; day <= 16; day++) {
      yard.pass(1);
      boolean isRain = yard.yard(1) < 5;
      int did = Math.min(isRain ? 0 : 8, paint);
      lost += !isRain && paint > 0 ? 8 - did : 0;
      paint -= did;
      engine -= 8;
      Check.same("paint left on " + day, paint, yard.job(0, 22, 0));
      Check.same("fitters work in rain, too", engine, yard.job(0, 19, 0) + yard.job(0, 20, 0));
      Check.same("lost hours", lost, yard.yard(13));
    }
  }

  private static void twoShips() {
    KeelHouse yard = new KeelHouse();
    Yards.addBox(yard);
    Yards.addBox(yard);
    yard.lay(1, 0);
    yard.lay(0, 1);
    yard.teams(0, 3);
    yard.pass(1);
    Check.same("of both keels the one of the smaller ship has two teams", 64, yard.job(0, 0, 0));
    Check.same("the other one has one", 72, yard.job(1, 0, 0));
    Check.same("spots cost both", -4, yard.money(2, 3, 0));
  }

  /** The luck goes 5, 6, 19, 28, 17, 2: the sixth job that comes to 0 hours is faulty. */
  private static void faults() {
    KeelHouse yard = Yards.onSlip();
    yard.cutAll(0, 0);
    int many = 0;
    while (yard.yard(11) == 0 && many < 100) {
      yard.pass(1);
      many++;
    }
    int done = Integer.bitCount(yard.works(0, 1));
    int faulty = -1;
    for (int job = 0; job < 24; job++) {
      faulty = yard.job(0, job, 7) == 1 ? job : faulty;
    }
    Check.same("one is faulty", true, faulty >= 0);
    int all = hoursOf(faulty);
    int left = yard.job(0, faulty, 0);
    Check.same("a quarter, up to a whole number, or less by a team's hours", true,
        left == (all + 3) / 4 || left == (all + 3) / 4 - 8 || left == (all + 3) / 4 - 4);
    Check.same("it is not done", 0, yard.job(0, faulty, 2));
    Check.same("faults", 1, yard.yard(11));
    Check.same("five came to 0 hours before", true, done >= 5);
    Check.same("its plates are not fitted", 0, yard.strake(0, (faulty - 1) / 3, 3 + (faulty - 1) % 3));
    int luck = yard.yard(3);
    int more = 0;
    while (yard.job(0, faulty, 2) == 0) {
      more = Integer.bitCount(yard.works(0, 1));
      luck = yard.yard(3);
      yard.pass(1);
    }
    int asked = 0;
    while (luck != yard.yard(3)) {
      luck = (13 * luck + 5) % 32;
      asked++;
    }
    Check.same("luck was asked for the others alone", Integer.bitCount(yard.works(0, 1)) - more - 1, asked);
    Check.same("it stays told as faulty", 1, yard.job(0, faulty, 7));
    Check.same("its plates are fitted", 8, yard.strake(0, (faulty - 1) / 3, 3 + (faulty - 1) % 3));
    Check.same("all in all they worked", true, yard.yard(12) > 6 * 70);
  }

  private static void rigOnlyAfloat() {
    KeelHouse yard = Yards.built();
    yard.pass(30);
    yard.pass(30);
    Check.same("all but the rig is done on the slip", 1 << 23, ~yard.works(0, 1) & (1 << 24) - 1);
    Yards.launch(yard, 0);
    Yards.buildOn(yard, 0, 23);
    Check.same("the rig is done afloat", 0, yard.works(0, 3));
  }

  /** Five jobs become done, and the luck is with them: what is told comes about. */
  private static void forecast() {
    KeelHouse yard = Yards.withoutStrakes();
    for (int trade = 0; trade < 3; trade++) {
      yard.teams(trade, 1);
    }
    long digest = yard.digest();
    int told = yard.done(0, 3);
    int faster = yard.done(0, 1);
    Check.same("asking changes nothing", digest, yard.digest());
    Check.same("130 and 60 and 40 hours, eight a day", (130 + 7) / 8 + 8 + 5, told);
    Check.same("faster with a fitter more", true, faster > 0 && faster < told);
    yard.teams(1, 2);
    Check.same("as with two", faster, yard.done(0, 3));
    int days = 0;
    while ((yard.works(0, 1) & (1 << 23) - 1) != (1 << 23) - 1) {
      yard.pass(1);
      days++;
      if (days < faster) {
        Check.same("still to go", faster - days, yard.done(0, 3));
      }
    }
    Check.same("days that went by", faster, days);
    Check.same("done", 0, yard.done(0, 3));
    Check.same("done, with no team", 0, yard.done(0, 0));
    KeelHouse six = Yards.onSlip();
    Check.same("seven platers, too", true, six.done(0, 0) > 0);
  }

  private static void forecastOfBare() {
    KeelHouse yard = Yards.onSlip();
    int bare = yard.done(0, 3);
    yard.cutAll(0, 0);
    Check.same("bare ones are taken as cut", bare, yard.done(0, 3));
    yard.scrap(0);
    Check.same("it was a sketch alone", bare, yard.done(0, 3));
    KeelHouse two = new KeelHouse();
    Yards.addBox(two);
    Yards.addBox(two);
    two.lay(0, 0);
    two.lay(1, 1);
    Yards.supply(two);
    two.order(0, 300);
    two.pass(1);
    int alone = two.done(1, 3);
    two.cutAll(0, 0);
    Check.same("teams are at the other one's, too", true, two.done(1, 3) > alone);
  }

  /** One team at a keel and some strakes: behind 121 days and more it is NONE, the first that is told is 120. */
  private static void forecastOfMany() {
    KeelHouse yard = Yards.drawn();
    for (int c = 0; c < 6; c++) {
      yard.plan(0, c, c < 4 ? 6 : 0, c < 3 ? 6 : 0, c < 3 ? 6 : 0);
    }
    yard.lay(0, 0);
    Yards.supply(yard);
    for (int trade = 0; trade < 3; trade++) {
      yard.teams(trade, 1);
    }
    yard.pass(1);
    yard.cutAll(0, 0);
    Check.same("done behind too many", -1, yard.done(0, 3));
    int days = 0;
    while (yard.done(0, 3) == -1 && days < 60) {
      yard.pass(1);
      days++;
    }
    Check.same("the first that is told", 120, yard.done(0, 3));
    Check.same("no job was faulty by then", 0, yard.yard(11));
  }

  private static void forecastRefuses() {
    KeelHouse yard = Yards.onSlip();
    Check.badArgument(yard, "done(0, 4)", () -> yard.done(0, 4));
    Check.badArgument(yard, "done(0, -1)", () -> yard.done(0, -1));
    Check.noIndex(yard, "done(1, 4)", () -> yard.done(1, 4));
    for (int trade = 0; trade < 3; trade++) {
      yard.teams(trade, 0);
    }
    Check.same("done without teams", -1, yard.done(0, 3));
    KeelHouse drawn = Yards.drawn();
    Check.badState(drawn, "done of a drawn one", () -> drawn.done(0, 0));
    Check.badArgument(drawn, "done(0, 4) of a drawn one", () -> drawn.done(0, 4));
    KeelHouse slow = Yards.withoutStrakes();
    slow.teams(1, 1);
    slow.teams(2, 1);
    Check.same("without platers the keel is never done", -1, slow.done(0, 3));
    Check.same("with one it is", true, slow.done(0, 0) > 0);
    for (int i = 0; i < 13; i++) {
      slow.teams(1, 0);
      slow.teams(2, 0);
      slow.pass(30);
    }
    slow.teams(1, 1);
    slow.teams(2, 1);
    Check.same("also behind day 400", true, slow.yard(0) + slow.done(0, 0) > 400);
  }
}
