import java.io.IOException;
import java.nio.file.DirectoryStream;
import java.nio.file.Files;
import java.nio.file.Path;
import java.nio.file.Paths;
import java.util.List;
import java.util.regex.Matcher;
import java.util.regex.Pattern;

/**
 * Where a sentence of the document leaves something open, or two could be read against each other: the reading that
 * NOTES.md tells is the one that the program keeps. Each reading there quotes its sentence and names a case.
 */
public final class ReadingsTest {
  private static final Path NOTES = Paths.get("NOTES.md");
  private static final Path DOCUMENT = Paths.get("../shared/DOC.md");
  private static final Path CASES = Paths.get("src/test/java");
  private static final Pattern READING = Pattern.compile("- (.*?)\"(.+?)\"(.*)`(\\w+)`\\.");

  public static void main(String[] args) throws Exception {
    readings();
    Bounds.run(ReadingsTest.class);
  }

  /** Each reading in the notes stands on a line of its own, quotes what the document says, and has its case. */
  private static void readings() throws IOException {
    String document = Files.readString(DOCUMENT);
    String cases = allCases();
    List<String> notes = Files.readAllLines(NOTES);
    int from = notes.indexOf("## Readings of the document that were chosen");
    Check.same("the notes have readings", true, from >= 0);
    int many = 0;
    for (String line : notes.subList(from + 1, notes.size())) {
      if (line.startsWith("- ")) {
        Matcher reading = READING.matcher(line);
        boolean isReading = reading.matches();
        Check.same("a sentence and a case are in: " + line, true, isReading);
        Check.same("the document says: " + line, true, isReading && document.contains(reading.group(2)));
        Check.same("the case is there of: " + line, true,
            isReading && cases.contains("static void " + reading.group(4) + "() {"));
        many++;
      }
    }
    Check.same("readings", true, many > 20);
  }

  private static String allCases() throws IOException {
    StringBuilder all = new StringBuilder();
    try (DirectoryStream<Path> files = Files.newDirectoryStream(CASES, "*Test.java")) {
      for (Path file : files) {
        all.append(Files.readString(file));
      }
    }
    return all.toString();
  }

  /** Till the next day has that weather. */
  private static void aheadOf(KeelHouse yard, int weather) {
    for (int i = 0; i < 16 && (5 * yard.yard(1) + 3) % 16 != weather; i++) {
      yard.pass(1);
    }
  }

  /** At sea on a long way, next to without steam, one day ahead of a first and two ahead of a second storm. */
  private static KeelHouse farOut() {
    KeelHouse yard = Place.SEA.yard();
    yard.net(0, 1);
    aheadOf(yard, 15);
    return yard;
  }

  // ---------------------------------------------------------------- section 0

  /** The middle goes by where a station lies, which is reckoned first; from the left on it would be another double. */
  static void section0WhatHasANameIsReckonedByItself() {
    int apart = 0;
    for (int length = 20; length <= 80; length++) {
      KeelHouse yard = new KeelHouse();
      yard.draw(2, length, 7, 53);
      double[] named = new double[7];
      double[] fromTheLeft = new double[7];
      for (int k = 0; k < 7; k++) {
        double section = 0.0;
        for (int j = 0; j < 4; j++) {
          section += (yard.hull(0, 100 + 5 * k + j) + yard.hull(0, 101 + 5 * k + j)) / 8.0 * (7 / 4.0);
        }
        named[k] = section * (k * length / 6.0);
        fromTheLeft[k] = section * k * length / 6.0;
      }
      double volume = yard.water(0, 56, 0);
      double due = simpson(named, length) / volume;
      apart += due == simpson(fromTheLeft, length) / volume ? 0 : 1;
      Check.same("middle of " + length, due, yard.water(0, 56, 1));
    }
    Check.same("some of these tell both apart", true, apart > 0);
  }

  private static double simpson(double[] n, int length) {
    return (n[0] + 4.0 * n[1] + 2.0 * n[2] + 4.0 * n[3] + 2.0 * n[4] + 4.0 * n[5] + n[6]) * length / 18.0;
  }

  // ---------------------------------------------------------------- section 2

  static void section2FloodGoesByTheSetThatIsAsked() {
    KeelHouse yard = farOut();
    KeelHouse whole = farOut();
    yard.limit(0, 20);
    yard.pass(1);
    whole.pass(1);
    Check.same("one is holed", 1, Integer.bitCount(yard.voyage(0, 6)));
    Check.same("none of the other ship", 0, whole.voyage(0, 6));
    Check.same("flooded by none", 0.0, yard.flood(0, 0, true));
    for (int holed = 0; holed <= 63; holed++) {
      Check.same("flood of " + holed, whole.flood(0, holed, false), yard.flood(0, holed, false));
      Check.same("flooded by " + holed, whole.flood(0, holed, true), yard.flood(0, holed, true));
    }
    for (int tonnes = 900; tonnes >= 100; tonnes -= 100) {
      yard.put(0, tonnes, 2, 0, 0);
      whole.put(0, tonnes, 2, 0, 0);
      Check.same("survives with " + tonnes, whole.survives(0), yard.survives(0));
      yard.take(0, 0);
      whole.take(0, 0);
    }
  }

  /** Three compartments would sink it by now, any two do not: a pair is looked at without what is holed at sea. */
  static void section2PairsAreSurvivedWithoutWhatIsHoledAtSea() {
    KeelHouse yard = farOut();
    yard.limit(0, 20);
    yard.pass(1);
    int holed = yard.voyage(0, 6);
    yard.limit(0, 400);
    int tonnes = 0;
    while (tonnes < 900 && !sinksByThree(yard, holed)) {
      tonnes += 20;
      if (tonnes > 20) {
        yard.take(0, 1);
        yard.take(0, 0);
      }
      yard.put(0, tonnes, 1, 0, 0);
      yard.put(0, tonnes, 4, 0, 0);
    }
    Check.same("three sink it", true, sinksByThree(yard, holed));
    Check.same("no two do", 5, yard.survives(0));
  }

  /**
   * All its water is in the compartments 1 to 3, so that those beside bring no more, but one looks again for each
   * step: behind 12, 24 or 36 times it lies a bit deeper each time.
   */
  static void section2FloodBesideIsOneStepAndThenWithoutBulkheads() {
    KeelHouse yard = new KeelHouse();
    yard.draw(0, 40, 8, 40);
    for (int at = 0; at < 35; at++) {
      if (at / 5 != 2 && at / 5 != 3) {
        yard.offset(0, at / 5, at % 5, 0);
      }
    }
    yard.put(0, 253, 2, 0, 0);
    int[] sets = {0b00000, 0b10110, 0b01111, 0b11111};
    double[] t = new double[4];
    for (int i = 0; i < 4; i++) {
      yard.bulkheads(0, sets[i]);
      t[i] = yard.flood(0, 0b001110, false);
      Check.same("flooded with the bulkheads " + sets[i], 63.0, yard.flood(0, 0b001110, true));
    }
    Check.same("above seven eighths of its depth at once", true, t[0] > 7.0 && t[3] < 8.0);
    Check.same("first 0 and 4, then 5 behind its bulkhead: one look more", true, t[0] < t[1]);
    Check.same("0 and 4 by a step, and at once 5 without a bulkhead: one look more as well", t[1], t[2]);
    Check.same("0 and 4 by a step, 5 by another one: two more", true, t[2] < t[3]);
  }

  private static boolean sinksByThree(KeelHouse yard, int holed) {
    int pair = holed == 1 || holed == 2 ? 0b110000 : 0b000011;
    return yard.flood(0, pair | holed, false) < 0.0;
  }

  // ---------------------------------------------------------------- section 3

  static void section3ByPlanAllButThePlatesIsAsItIs() {
    KeelHouse yard = Yards.drawn();
    yard.fill(0, 800008);
    yard.put(0, 50, 3, 0, 0);
    double plates = yard.floats(0, 0);
    yard.lay(0, 0);
    Check.same("none is fitted", plates, yard.floats(0, 0));
    double[] planned = new double[6];
    for (int c = 0; c < 6; c++) {
      planned[c] = yard.test(0, 0, true, 6 + c);
    }
    KeelHouse drawn = Yards.drawn();
    drawn.power(0, 20);
    drawn.fill(0, 800008);
    drawn.put(0, 50, 3, 0, 0);
    for (int c = 0; c < 6; c++) {
      Check.same("behind " + c + " no engine weighs by plan", planned[c], drawn.test(0, 0, true, 6 + c));
    }
  }

  // ---------------------------------------------------------------- section 4

  static void section4WhatIsThrownAwayIsGone() {
    KeelHouse yard = Yards.onSlip();
    Check.same("cutAll", 18, yard.cutAll(0, 0));
    int stock = yard.store(0, 5);
    int offcuts = yard.store(0, 7);
    int area = yard.store(0, 8);
    Check.same("scrap", 18, yard.scrap(0));
    Check.same("stock", stock, yard.store(0, 5));
    Check.same("offcuts", offcuts, yard.store(0, 7));
    Check.same("their area", area, yard.store(0, 8));
    Check.same("all are bare again", 0, yard.scrap(0));
  }

  /** An offcut of 60 by 40 covers the bottom of 1, and it is not reckoned with. */
  static void promise14NeedsIsToldWithoutOffcuts() {
    KeelHouse yard = new KeelHouse();
    yard.draw(0, 24, 4, 16);
    for (int c = 0; c < 6; c++) {
      yard.plan(0, c, c < 2 ? 6 : 0, 0, 0);
    }
    yard.sheets(40, 100, 6, 1, 1);
    yard.order(0, 10);
    yard.lay(0, 0);
    yard.pass(1);
    Check.same("needs of two bottoms of 40 by 40", 2, yard.needs(0, 0));
    Check.same("cut", 1, yard.cut(0, 0, 0, 0));
    Check.same("an offcut of 60 by 40", 60 * 40, yard.store(0, 8));
    Check.same("needs of one", 1, yard.needs(0, 0));
    Check.same("cut of the offcut", 0, yard.cut(0, 1, 0, 0));
    Check.same("needs of none", 0, yard.needs(0, 0));
  }

  // ---------------------------------------------------------------- section 5

  /** A gate that is shut, a storm, and a tide that is too low keep a ship from shifting, not from sailing. */
  static void section5SailingAsksForNoGateStormOrTide() {
    int[] kept = new int[3];
    for (int days = 1; days <= 60; days++) {
      KeelHouse yard = Place.READY_IN_DOCK.yard();
      yard.pass(Math.min(days, 30));
      if (days > 30) {
        yard.pass(days - 30);
      }
      if (days % 2 == 0) {
        yard.put(0, 500, 2, 0, 0);
      }
      boolean isShut = yard.yard(2) < 45;
      boolean isStorm = yard.yard(1) >= 13;
      boolean isShallow = yard.spot(2, 3) < yard.lies(0, 2);
      kept[0] += isShut && !isStorm && !isShallow ? 1 : 0;
      kept[1] += isStorm && !isShut && !isShallow ? 1 : 0;
      kept[2] += isShallow && !isStorm ? 1 : 0;
      if (isShut || isStorm || isShallow) {
        Check.inVain(yard, "shift to a berth", -1, () -> yard.shift(0, 5));
      }
      Check.same("sail on " + yard.yard(0), 300, yard.sail(0, 1));
      Check.same("it is out", "0 ready at sea", yard.tell(0));
    }
    Check.same("days with a gate that alone was shut", true, kept[0] > 0);
    Check.same("days with a storm alone", true, kept[1] > 0);
    Check.same("days with too little water", true, kept[2] > 0);
  }

  // ---------------------------------------------------------------- section 6

  /** A strake with a plan of 0 is done ahead of the keel, and has no plates; nothing can be cut for it. */
  static void section6WhatHasNoHoursIsDoneAsItIsLaidDown() {
    KeelHouse yard = Yards.drawn();
    yard.plan(0, 2, 0, 6, 0);
    yard.lay(0, 0);
    Yards.supply(yard);
    yard.pass(1);
    Check.same("the keel is not done", 0, yard.job(0, 0, 2));
    Check.same("the bottom of 2 is", 1, yard.job(0, 7, 2));
    Check.same("the deck of 2 is", 1, yard.job(0, 9, 2));
    Check.same("what is done", 1 << 7 | 1 << 9, yard.works(0, 1));
    Check.same("its plates", 0, yard.strake(0, 2, 3));
    Check.badArgument(yard, "cut of it", () -> yard.cut(0, 2, 0, 0));
    Check.same("cutAll", 16, yard.cutAll(0, 0));
    Check.same("sound", true, yard.isSound());
  }

  /** What is bare of other ships stays so, what is cut of them takes teams away. */
  static void promise20DoneLeavesOtherShipsAsTheyAre() {
    KeelHouse alone = Yards.onSlip();
    KeelHouse bare = Yards.onSlip();
    KeelHouse busy = Yards.onSlip();
    for (KeelHouse yard : List.of(bare, busy)) {
      Yards.addBox(yard);
      for (int c = 0; c < 6; c++) {
        yard.plan(1, c, 6, 0, 0);
      }
      yard.power(1, 0);
      yard.lay(1, 1);
    }
    busy.cutAll(1, 0);
    int days = alone.done(0, 3);
    Check.same("it would be done", true, days > 0);
    Check.same("another one that is cut keeps teams busy", true, busy.done(0, 3) > bare.done(0, 3));
    Check.same("what is bare of it does not", true, bare.done(0, 3) >= days);
    Check.same("the other one would be done by cutting it", true, bare.done(1, 3) > 0);
  }

  /** The first day of work is tomorrow, with the weather of tomorrow: it comes about as it was told. */
  static void promise20DoneGoesByTheWeatherFromTomorrowOn() {
    for (int start = 1; start <= 16; start++) {
      KeelHouse yard = Yards.withoutStrakes();
      yard.teams(0, 6);
      yard.teams(1, 6);
      yard.pass(20);
      yard.pass(start);
      Check.same("all but paint and rig are done", 0x3FFFFF, yard.works(0, 1));
      yard.teams(2, 2);
      int told = yard.done(0, 3);
      int days = 0;
      int dry = 0;
      while (days < 120 && yard.job(0, 22, 2) == 0) {
        yard.pass(1);
        days++;
        dry += yard.yard(1) >= 5 ? 1 : 0;
      }
      Check.same("it was not faulty", 0, yard.yard(11));
      Check.same("36 hours of two teams are three dry days", 3, dry);
      Check.same("done behind so many days from " + yard.yard(0) + " on", days, told);
    }
  }

  /** The sixth job to be done is faulty (5, 6, 19, 28, 17, 2): of the last 8 hours 4 are worked, and 4 are lost. */
  static void section6HoursAreLostAsAJobIsFaultyToo() {
    KeelHouse yard = Yards.withoutStrakes();
    for (int trade = 0; trade < 3; trade++) {
      yard.teams(trade, 4);
    }
    Yards.buildOn(yard, 0, 22);
    Yards.launch(yard, 0);
    yard.teams(2, 0);
    while (yard.yard(1) != 8) {
      yard.pass(1);
    }
    yard.teams(2, 1);
    yard.pass(2);
    Check.same("left of the rig", 4, yard.job(0, 23, 0));
    int worked = yard.yard(12);
    int lost = yard.yard(13);
    yard.pass(1);
    Check.same("it is faulty", 1, yard.job(0, 23, 7));
    Check.same("a quarter of 20 is left", 5, yard.job(0, 23, 0));
    Check.same("worked", worked + 4, yard.yard(12));
    Check.same("lost", lost + 4, yard.yard(13));
    yard.pass(1);
    Check.same("done", 1, yard.job(0, 23, 2));
    Check.same("lost", lost + 7, yard.yard(13));
  }

  // ---------------------------------------------------------------- section 7

  static void section7AnEngineOfPower0WeighsAsItsJobIsDone() {
    KeelHouse yard = Yards.withoutStrakes();
    KeelHouse other = new KeelHouse();
    Yards.addBox(other);
    other.power(0, 0);
    for (int c = 0; c < 6; c++) {
      other.plan(0, c, 0, 0, 0);
    }
    other.lay(0, 0);
    for (KeelHouse each : List.of(yard, other)) {
      each.teams(0, 2);
      each.teams(1, 2);
      each.pass(30);
      Check.same("the engine is done", 1, each.job(0, 20, 2));
    }
    Check.same("with a power of 10", 65.0, yard.floats(0, 0));
    Check.same("with a power of 0", 5.0, other.floats(0, 0));
    Check.same("it gives nothing", 0, other.engine(0, 6));
  }

  static void section7GivesOfOneThatIsGone() {
    KeelHouse sold = Place.SOLD.yard();
    KeelHouse lost = farOut();
    lost.net(0, 40);
    lost.put(0, 400, 2, 0, 160);
    lost.pass(1);
    Check.same("lost", "0 lost", lost.tell(0));
    for (KeelHouse yard : List.of(sold, lost)) {
      Check.same("gives", 1000, yard.engine(0, 6));
      Check.same("weighs", true, yard.floats(0, 0) > 65.0);
      Check.same("speed", yard.speed(0, 1000), yard.speed(0, -1));
    }
  }

  // ---------------------------------------------------------------- section 8

  static void section8BuyersAreBidForBehindTheirDueDay() {
    KeelHouse yard = Place.READY.yard();
    yard.buyer(25, 0, 0, 10, 600);
    yard.pass(20);
    Check.same("behind its due day", true, yard.yard(0) > yard.sale(1, 3));
    Check.same("the best one", 1, yard.bestBuyer(0));
    Check.same("bid", true, yard.bid(1, 0, 400));
    Check.same("no fine as yet", 0, yard.sale(1, 8));
    yard.pass(1);
    Check.same("one fine as the day ended", 1, yard.sale(1, 8));
  }

  // ---------------------------------------------------------------- section 9

  /** The day that ends without a spot for it was a day at sea, those on which it waits then are not. */
  static void section9TheDayThatEndsInWaitingIsADayAtSea() {
    KeelHouse yard = Place.WAITING.yard();
    Check.same("it waits", "0 ready at sea", yard.tell(0));
    int days = yard.voyage(0, 8);
    yard.pass(1);
    Check.same("a day on which it waits", days, yard.voyage(0, 8));
    Yards.calm(yard, 46);
    yard.shift(1, 4);
    yard.pass(1);
    Check.same("it is in", "0 ready at 5", yard.tell(0));
    Check.same("the day on which it comes in from there", days, yard.voyage(0, 8));
    yard.sail(0, 0);
    int out = 0;
    while (yard.voyage(0, 0) == 1) {
      yard.pass(1);
      out++;
    }
    Check.same("each day till the port", days + out, yard.voyage(0, 8));
    Yards.calm(yard, 46);
    yard.shift(1, 5);
    Check.same("the berth is taken", 1, yard.spot(5, 0));
    yard.sail(0, -1);
    while (yard.voyage(0, 3) > 0) {
      yard.pass(1);
      out++;
    }
    Check.same("it waits", "0 ready at sea", yard.tell(0));
    Check.same("each day till it is off the yard", days + out, yard.voyage(0, 8));
    yard.pass(3);
    Check.same("not the days behind that", days + out, yard.voyage(0, 8));
  }

  /** Fuel, foul, what is holed, what was earned and the days at sea stay with a ship that is lost. */
  static void section9WhatIsLostKeepsWhatItHas() {
    KeelHouse yard = Place.PORT.yard();
    yard.bunker(0, 300);
    yard.stow(0, 0, 3);
    yard.sail(0, 1);
    while (yard.voyage(0, 0) == 1) {
      yard.pass(1);
    }
    Check.same("unload", 100, yard.unload(0));
    while (yard.lies(0, 1) < 2) {
      yard.pass(1);
    }
    yard.net(0, 1);
    aheadOf(yard, 15);
    yard.limit(0, 20);
    yard.sail(0, 0);
    yard.pass(1);
    int holed = yard.voyage(0, 6);
    Check.same("holed", 1, Integer.bitCount(holed));
    int[] before = {yard.lies(0, 1), yard.voyage(0, 2), yard.voyage(0, 7), yard.voyage(0, 8)};
    yard.put(0, 400, 2, 0, 160);
    yard.pass(1);
    Check.same("lost", "0 lost", yard.tell(0));
    Check.same("foul", before[0], yard.lies(0, 1));
    Check.same("fuel but what it burnt", before[1] - 2, yard.voyage(0, 2));
    Check.same("earned", before[2], yard.voyage(0, 7));
    Check.same("the day on which it was lost is one at sea", before[3] + 1, yard.voyage(0, 8));
    Check.same("holed", holed, yard.voyage(0, 6));
    yard.pass(20);
    Check.same("foul of a lost one stays", before[0], yard.lies(0, 1));
    Check.same("nothing is paid for what is holed", 0, yard.money(7, 3, 14));
  }

  static void section9WhatIsSoldKeepsWhatItHas() {
    KeelHouse yard = Place.READY.yard();
    yard.bunker(0, 70);
    yard.pass(20);
    int foul = yard.lies(0, 1);
    Check.same("bid", true, yard.bid(0, 0, 400));
    Check.same("handOver", 400 - 80 - 160, yard.handOver(0));
    Check.same("fuel", 70, yard.voyage(0, 2));
    Check.same("foul", foul, yard.lies(0, 1));
  }

  /** Of all three seas: in still water the compartment 5 is strained most, in the other two the compartment 1. */
  static void section9TheWeakestOfAllThreeSeasIsHoled() {
    KeelHouse drawn = new KeelHouse();
    drawn.draw(1, 28, 10, 79);
    drawn.offset(0, 4, 1, 47);
    drawn.offset(0, 3, 2, 31);
    drawn.offset(0, 6, 0, 19);
    drawn.power(0, 10);
    drawn.net(0, 40);
    KeelHouse yard = Yards.ready(drawn);
    yard.port(40, 40, 200);
    yard.sail(0, 0);
    yard.net(0, 1);
    yard.put(0, 60, 4, 0, 0);
    yard.put(0, 160, 2, 0, 0);
    double still = yard.test(0, 0, false, 5);
    for (int sea = 1; sea <= 2; sea++) {
      Check.same("5 is strained less in " + sea, true, yard.test(0, sea, false, 5) < still);
      Check.same("and less than 1 is", true,
          yard.test(0, sea, false, 5) < Math.max(yard.test(0, 1, false, 1), yard.test(0, 2, false, 1)));
    }
    Check.same("still water is worst", true, still > Math.max(yard.test(0, 1, false, 18), yard.test(0, 2, false, 18)));
    yard.limit(0, 20);
    aheadOf(yard, 15);
    yard.pass(1);
    Check.same("holed", 1 << 5, yard.voyage(0, 6));
  }

  /** Loaded evenly behind the first storm, it would sink by what is holed, but the waves strain it within its limit. */
  static void section9WhetherItSinksIsAskedOnlyAboveTheLimit() {
    for (int limit : new int[] {400, 20}) {
      KeelHouse yard = farOut();
      yard.limit(0, 20);
      yard.pass(1);
      int holed = yard.voyage(0, 6);
      Check.same("holed", 1, Integer.bitCount(holed));
      loadUntilItSinksBy(yard, holed, holed);
      Check.same("its list", true, yard.floats(0, 6) < 10.0);
      Check.same("within 400", true, Math.max(yard.test(0, 1, false, 18), yard.test(0, 2, false, 18)) <= 400.0);
      yard.limit(0, limit);
      aheadOf(yard, 15);
      yard.pass(1);
      Check.same("with a limit of " + limit, limit == 20 ? "0 lost" : "0 ready at sea", yard.tell(0));
    }
  }

  /** The second one alone would not sink it, nor does the first one: both together do. */
  static void section9ItSinksByAllThatAreHoledTogether() {
    KeelHouse yard = farOut();
    yard.limit(0, 20);
    yard.pass(1);
    int first = yard.voyage(0, 6);
    Check.same("holed", 1, Integer.bitCount(first));
    int second = 0;
    for (int c = 0; c < 6 && second == 0; c++) {
      yard.put(0, 100, c, 0, 0);
      int weakest = 1 << yard.weakest(0, false);
      if (weakest != first) {
        second = weakest;
      } else {
        yard.take(0, 0);
      }
    }
    Check.same("another one is the weakest then", true, second != 0);
    for (int tonnes = 20; tonnes <= 320 && yard.flood(0, first | second, false) >= 0.0; tonnes += 20) {
      while (yard.take(0, 0) > 0) {
        continue;
      }
      spread(yard, tonnes, second);
    }
    Check.same("both sink it", -1.0, yard.flood(0, first | second, false));
    Check.same("the first one does not", true, yard.flood(0, first, false) > 0.0);
    Check.same("the second one does not", true, yard.flood(0, second, false) > 0.0);
    Check.same("the weakest one", second, 1 << yard.weakest(0, false));
    aheadOf(yard, 15);
    yard.pass(1);
    Check.same("lost", "0 lost", yard.tell(0));
    Check.same("both are holed", first | second, yard.voyage(0, 6));
  }

  /** Five items of so many tonnes, and one more in the place that makes that compartment the weakest one. */
  private static void spread(KeelHouse yard, int tonnes, int weakest) {
    for (int at = 0; at < 6; at++) {
      for (int c = 0; c < 6; c++) {
        yard.put(0, c == at ? tonnes + 100 : tonnes, c, 0, 0);
      }
      if (1 << yard.weakest(0, false) == weakest) {
        return;
      }
      while (at < 5 && yard.take(0, 0) > 0) {
        continue;
      }
    }
  }

  private static void loadUntilItSinksBy(KeelHouse yard, int holed, int weakest) {
    for (int tonnes = 20; tonnes <= 400; tonnes += 20) {
      for (int c = 0; c < 6; c++) {
        yard.put(0, tonnes, c, 0, 0);
      }
      if (yard.flood(0, holed, false) < 0.0) {
        return;
      }
      while (yard.take(0, 0) > 0) {
        continue;
      }
    }
  }

  /** From a port of the set the way goes through it, ahead of the others or behind them, as is least. */
  static void promise32RouteFromAPortOfItsSet() {
    KeelHouse yard = new KeelHouse();
    yard.port(10, 0, 20);
    yard.port(30, 0, 20);
    Check.same("from 0 to 0 and 1", 5 * (20 + 30), yard.route(0, 3, true));
    Check.same("0 comes first, at no way", 0, yard.route(0, 3, false));
    Check.same("from 1 to 0 and 1", 5 * 30, yard.route(1, 3, true));
    Check.same("1 comes first: by 0 it would be more", 1, yard.route(1, 3, false));
    yard.port(30, 0, 20);
    Check.same("from 2 to 1 and 2", 5 * 30, yard.route(2, 6, true));
    Check.same("both at one place: the smaller one", 1, yard.route(2, 6, false));
  }

  // ---------------------------------------------------------------- section 10

  /** Spots and wages of the day 30 are of the month 1, those of the day 29 of the month 0. */
  static void section10WhatADayPaysIsOfItsOwnMonth() {
    KeelHouse yard = Yards.withoutStrakes();
    yard.teams(1, 4);
    yard.pass(29);
    Check.same("spots of the month 0", -2 * 29, yard.money(2, 0, 0));
    Check.same("wages of the month 0", -12 * 29, yard.money(1, -1, 0));
    Check.same("nothing in the month 1", 0, yard.money(9, 3, 1));
    yard.pass(1);
    Check.same("spots of the month 0 still", -2 * 29, yard.money(2, 0, 0));
    Check.same("wages of the month 0 still", -12 * 29, yard.money(1, -1, 0));
    Check.same("spots of the month 1", -2, yard.money(2, 0, 1));
    Check.same("wages of the month 1", -12, yard.money(1, -1, 1));
  }
}
