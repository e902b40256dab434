import java.util.EnumSet;

/** Section 5, promises 15 to 17, at their bounds. */
public final class Bounds5EdgeTest {
  private static final int[] DEEPS = {10, 0, 25, 5, 15, 25};

  public static void main(String[] args) throws Exception {
    Bounds.run(Bounds5EdgeTest.class);
  }

  /** Without plates, on a slip, with the jobs 0 to 19 done. */
  static KeelHouse built(int length, int slip) {
    KeelHouse yard = new KeelHouse();
    addBuilt(yard, length, slip);
    return yard;
  }

  private static void addBuilt(KeelHouse yard, int length, int slip) {
    int ship = yard.draw(0, length, 6, 40);
    yard.bulkheads(ship, 31);
    for (int c = 0; c < 6; c++) {
      yard.plan(ship, c, 0, 0, 0);
    }
    yard.lay(ship, slip);
    for (int trade = 0; trade < 3; trade++) {
      yard.teams(trade, 6);
    }
    Yards.buildOn(yard, ship, 19);
  }

  /** Puts aboard so much that it needs that much water. */
  private static void load(KeelHouse yard, int ship, int need) {
    int length = yard.hull(ship, 1);
    int weight = (need - 3) * length - length / 4 - (int) yard.floats(ship, 0);
    for (int c = 2; weight > 0; c++) {
      yard.put(ship, Math.min(weight, 900), c, 0, 0);
      weight -= 900;
    }
    Check.same("what it needs", need, yard.lies(ship, 2));
  }

  static void promise15LaySlip0And1() {
    Bounds.index("lay", Yards::drawn, 0, 1, (yard, slip) -> yard.lay(0, slip));
  }

  static void promise15LayOnlyDrawn() {
    Bounds.onlyAt("lay", EnumSet.of(Place.DRAWN), yard -> yard.lay(0, 1));
  }

  static void promise15LayOnAFreeSlip() {
    KeelHouse yard = Yards.drawn();
    Yards.addBox(yard);
    Yards.addBox(yard);
    Check.same("lay", 1, yard.lay(0, 0));
    Check.badState(yard, "lay on that slip", () -> yard.lay(1, 0));
    Check.same("lay on the other", 0, yard.lay(1, 1));
    Check.badState(yard, "lay on a slip that is not free", () -> yard.lay(2, 0));
    Check.badState(yard, "lay on the other one", () -> yard.lay(2, 1));
  }

  static void promise15LayWithRoomOfJustLength() {
    for (int length = 59; length <= 61; length++) {
      KeelHouse yard = new KeelHouse();
      yard.draw(0, length, 6, 40);
      if (length <= 60) {
        Check.same("lay of " + length + " on 60", 1, yard.lay(0, 0));
      } else {
        Check.badState(yard, "lay of 61 on 60", () -> yard.lay(0, 0));
        Check.same("lay of 61 on 90", 1, yard.lay(0, 1));
      }
    }
    KeelHouse longest = new KeelHouse();
    longest.draw(0, 80, 6, 40);
    Check.same("lay of 80 on 90", 1, longest.lay(0, 1));
  }

  static void promise15LaunchOnlyOnTheSlip() {
    for (Place place : Place.values()) {
      KeelHouse yard = place.yard();
      Check.badState(yard, "launch at " + place, () -> yard.launch(0));
    }
  }

  /** Each job of 0 to 19 has to be done, 20 and those behind it not. */
  static void promise15LaunchWithJobs0To19Done() {
    KeelHouse yard = Yards.withoutStrakes();
    yard.teams(0, 6);
    yard.teams(1, 6);
    yard.pass(6);
    Check.same("20 to 23 are not done", (1 << 20) - 1, yard.works(0, 1));
    Check.same("launch without 20 to 23", 3, yard.launch(0));
    for (int job = 1; job <= 18; job++) {
      KeelHouse bare = new KeelHouse();
      bare.draw(0, 40, 6, 40);
      for (int c = 0; c < 6; c++) {
        int at = job - 1 - 3 * c;
        bare.plan(0, c, at == 0 ? 6 : 0, at == 1 ? 6 : 0, at == 2 ? 6 : 0);
      }
      bare.lay(0, 0);
      bare.teams(0, 6);
      bare.teams(1, 6);
      bare.pass(30);
      Check.same("not done", 1 << job, ~bare.works(0, 1) & (1 << 19) - 1);
      Check.badState(bare, "launch without the job " + job, () -> bare.launch(0));
    }
    KeelHouse keel = Yards.withoutStrakes();
    keel.teams(1, 6);
    keel.pass(30);
    Check.badState(keel, "launch without the job 0", () -> keel.launch(0));
    KeelHouse bulkheads = Yards.withoutStrakes();
    bulkheads.teams(0, 6);
    bulkheads.pass(30);
    Check.same("all but 19 to 23", (1 << 19) - 1, bulkheads.works(0, 1));
    Check.badState(bulkheads, "launch without the job 19", () -> bulkheads.launch(0));
  }

  /** On each calm day a ship that needs just what the tide gives on its slip, and one that needs a tenth more. */
  static void promise15LaunchWithATideThatIsJustEnough() {
    int seen = 0;
    for (int day = 20; day < 68; day++) {
      KeelHouse yard = built(40, 0);
      while (yard.yard(0) < day) {
        yard.pass(1);
      }
      int over = yard.yard(2) - 10;
      if (yard.yard(1) >= 13) {
        Check.inVain(yard, "launch in a storm", -1, () -> yard.launch(0));
        continue;
      }
      seen++;
      load(yard, 0, over);
      yard.put(0, 41, 4, 0, 0);
      Check.same("a tenth more", over + 1, yard.lies(0, 2));
      Check.inVain(yard, "launch with a tenth too little on " + day, -1, () -> yard.launch(0));
      yard.take(0, 1);
      if (yard.lies(0, 2) == over) {
        Check.same("launch with just enough on " + day, 3, yard.launch(0));
      }
    }
    Check.same("some days were calm", true, seen > 30);
  }

  /** The berth 5 alone has room for 71; it is 25 less deep than the slip 1. */
  static void promise15LaunchIntoABerthThatIsJustDeepEnough() {
    for (int more = 0; more <= 1; more++) {
      KeelHouse yard = built(71, 1);
      Yards.calm(yard, 40);
      load(yard, 0, yard.yard(2) - 25 + more);
      if (more == 0) {
        Check.same("launch with just enough", 5, yard.launch(0));
      } else {
        Check.inVain(yard, "launch with a tenth too little there", -2, () -> yard.launch(0));
      }
    }
  }

  static void promise15LaunchIntoTheSmallestBerthWithRoom() {
    int[] lengths = {49, 50, 51, 69, 70, 71, 80};
    int[] berths = {3, 3, 4, 4, 4, 5, 5};
    for (int i = 0; i < lengths.length; i++) {
      KeelHouse yard = built(lengths[i], 1);
      Yards.calm(yard, 40);
      Check.same("launch of " + lengths[i], berths[i], yard.launch(0));
      Check.same("that spot", 0, yard.spot(berths[i], 0));
      Check.same("its slip is free", -1, yard.spot(1, 0));
    }
  }

  static void promise15LaunchIntoABerthThatIsFree() {
    KeelHouse yard = built(40, 0);
    addBuilt(yard, 40, 1);
    Yards.calm(yard, 46);
    Check.same("the first", 3, yard.launch(0));
    Check.same("the second", 4, yard.launch(1));
    addBuilt(yard, 40, 0);
    Yards.calm(yard, 46);
    Check.same("the third", 5, yard.launch(2));
    KeelHouse full = built(80, 1);
    Yards.calm(full, 40);
    full.launch(0);
    addBuilt(full, 71, 1);
    Yards.calm(full, 40);
    Check.inVain(full, "launch without a free berth", -2, () -> full.launch(1));
    while (full.yard(1) < 13) {
      full.pass(1);
    }
    Check.inVain(full, "launch in a storm, ahead of -2", -1, () -> full.launch(1));
  }

  private static void lean(KeelHouse yard, double list) {
    for (int side = 0; side <= 64; side++) {
      yard.put(0, 800, 2, side, 20);
      if (yard.floats(0, 6) == list) {
        return;
      }
      yard.take(0, 0);
    }
    Check.same("a list of " + list, true, false);
  }

  static void promise15LaunchWithAListOf9And10() {
    KeelHouse nine = built(40, 0);
    Yards.calm(nine, 40);
    lean(nine, 9.0);
    Check.same("launch with a list of 9", 3, nine.launch(0));
    KeelHouse ten = built(40, 0);
    Yards.calm(ten, 40);
    lean(ten, 10.0);
    Check.same("launch with a list of 10", -3, ten.launch(0));
    Check.same("tell", "0 lost", ten.tell(0));
    Check.same("its slip is free", -1, ten.spot(0, 0));
    KeelHouse full = built(80, 1);
    Yards.calm(full, 40);
    full.launch(0);
    addBuilt(full, 71, 1);
    Yards.calm(full, 40);
    full.put(1, 300, 2, 0, 160);
    Check.same("it would capsize", 10.0, full.floats(1, 6));
    Check.inVain(full, "launch without a berth, ahead of -3", -2, () -> full.launch(1));
  }

  static void promise15LaunchWithoutADraught() {
    KeelHouse yard = built(40, 0);
    Yards.calm(yard, 40);
    for (int i = 0; i < 3; i++) {
      yard.put(0, 900, 2, 0, 0);
    }
    Check.inVain(yard, "launch without a draught", -1, () -> yard.launch(0));
  }

  static void promise16ShiftSpot2To5() {
    for (int spot : new int[] {2, 4, 5}) {
      KeelHouse yard = Place.AFLOAT.yard();
      Yards.calm(yard, 46);
      Check.same("shift to " + spot, true, yard.shift(0, spot) >= 0);
      Check.same("its spot", spot, yard.lies(0, 0));
    }
    KeelHouse yard = Place.AFLOAT.yard();
    for (int spot : new int[] {1, 0, -1, 6, Integer.MIN_VALUE, Integer.MAX_VALUE}) {
      Check.noIndex(yard, "shift to " + spot, () -> yard.shift(0, spot));
    }
  }

  static void promise16ShiftAfloatOrReadyInTheYard() {
    EnumSet<Place> places = EnumSet.of(Place.AFLOAT, Place.AFLOAT_IN_DOCK, Place.READY, Place.READY_IN_DOCK);
    Bounds.onlyAt("shift", places, yard -> yard.shift(0, 5));
  }

  static void promise16ShiftToASpotThatIsFree() {
    KeelHouse yard = Place.AFLOAT.yard();
    Check.badState(yard, "shift to where it is", () -> yard.shift(0, 3));
    addBuilt(yard, 40, 1);
    Yards.calm(yard, 46);
    Check.same("launch of another one", 4, yard.launch(1));
    Check.badState(yard, "shift to where the other is", () -> yard.shift(0, 4));
    Check.badState(yard, "shift of the other one", () -> yard.shift(1, 3));
    Check.same("shift to a free one", true, yard.shift(1, 5) >= 0);
    Check.same("shift to where it was", true, yard.shift(0, 4) >= 0);
  }

  static void promise16ShiftWithRoomOfJustLength() {
    int[] rooms = {0, 0, 70, 50, 70, 90};
    for (int length : new int[] {50, 51, 70, 71}) {
      for (int spot = 2; spot <= 5; spot++) {
        KeelHouse yard = built(length, 1);
        Yards.calm(yard, 46);
        yard.launch(0);
        int to = spot;
        if (yard.lies(0, 0) == spot) {
          continue;
        }
        if (rooms[spot] >= length) {
          Check.same("shift of " + length + " to " + spot, 0, yard.shift(0, to));
        } else {
          Check.badState(yard, "shift of " + length + " to " + spot, () -> yard.shift(0, to));
        }
      }
    }
  }

  /** The tide may be 44 or 46, but is never 45. */
  static void promise16ShiftByTheGateWithATideOf44And46() {
    boolean[] isSeen = new boolean[80];
    for (Place place : new Place[] {Place.AFLOAT, Place.AFLOAT_IN_DOCK}) {
      for (int day = 0; day < 48; day++) {
        KeelHouse yard = place.yard();
        yard.pass(1 + day % 24);
        yard.pass(1 + day / 24 * 24);
        int tide = yard.yard(2);
        Check.same("a tide of 45 does not come", false, tide == 45);
        int to = place == Place.AFLOAT ? 2 : 3;
        if (yard.yard(1) < 13 && tide >= 38) {
          isSeen[tide] = true;
          if (tide >= 45) {
            Check.same("shift to " + to + " with a tide of " + tide, true, yard.shift(0, to) >= 0);
          } else {
            Check.inVain(yard, "shift to " + to + " with a tide of " + tide, -1, () -> yard.shift(0, to));
          }
        }
      }
    }
    Check.same("44 was seen", true, isSeen[44]);
    Check.same("46 was seen", true, isSeen[46]);
    KeelHouse between = Place.AFLOAT.yard();
    Yards.calm(between, 30);
    while (between.yard(2) >= 45 || between.yard(2) < 40 || between.yard(1) >= 13) {
      between.pass(1);
    }
    Check.same("between berths the gate does not matter", true, between.shift(0, 4) >= 0);
  }

  /** To and from the berth 5, where the ground is highest, and back. */
  static void promise16ShiftWithATideThatIsJustEnough() {
    for (int from : new int[] {3, 5}) {
      for (int more = 0; more <= 1; more++) {
        KeelHouse yard = built(40, 0);
        Yards.calm(yard, 46);
        yard.launch(0);
        if (from == 5) {
          yard.shift(0, 5);
        }
        yard.pass(1);
        Yards.calm(yard, 40);
        int to = 8 - from;
        load(yard, 0, yard.yard(2) - 25 + more);
        if (more == 0) {
          Check.same("shift from " + from + " with just enough", true, yard.shift(0, to) >= 0);
        } else {
          Check.inVain(yard, "shift from " + from + " with a tenth too little", -1, () -> yard.shift(0, to));
        }
      }
    }
  }

  static void promise16ShiftInAStormOrWithoutADraught() {
    KeelHouse yard = Place.AFLOAT.yard();
    while (yard.yard(1) != 13) {
      yard.pass(1);
    }
    Check.inVain(yard, "shift with a weather of 13", -1, () -> yard.shift(0, 4));
    KeelHouse heavy = Place.AFLOAT.yard();
    Yards.calm(heavy, 46);
    for (int i = 0; i < 3; i++) {
      heavy.put(0, 900, 2, 0, 0);
    }
    Check.inVain(heavy, "shift without a draught", -1, () -> heavy.shift(0, 4));
    while (heavy.yard(1) != 12 || heavy.yard(2) < 40) {
      heavy.pass(1);
    }
    heavy.take(0, 0);
    heavy.take(0, 0);
    heavy.take(0, 0);
    Check.same("shift with a weather of 12", true, heavy.shift(0, 4) >= 0);
  }

  static void promise16SpotIndexAndWhat() {
    Bounds.index("spot", KeelHouse::new, 0, 5, (yard, spot) -> yard.spot(spot, 0));
    Bounds.argument("spot", KeelHouse::new, 0, 3, (yard, what) -> yard.spot(0, what));
  }

  static void promise17LiesWhat0To2() {
    Bounds.argument("lies", Yards::drawn, 0, 2, (yard, what) -> yard.lies(0, what));
  }

  /** 240 tonnes on 240 square metres: just a metre, so 10 and 3; with one more 11 and 3. */
  static void promise17LiesNeedsUpToAWholeNumber() {
    KeelHouse yard = new KeelHouse();
    yard.draw(0, 24, 8, 40);
    yard.put(0, 240, 2, 0, 0);
    Check.same("t", 1.0, yard.floats(0, 4));
    Check.same("needs", 13, yard.lies(0, 2));
    yard.put(0, 1, 2, 0, 0);
    Check.same("needs with a tonne more", 14, yard.lies(0, 2));
    yard.take(0, 1);
    yard.take(0, 0);
    Check.same("needs empty", 4, yard.lies(0, 2));
    yard.put(0, 900, 2, 0, 0);
    yard.put(0, 900, 2, 0, 0);
    yard.put(0, 120, 2, 0, 0);
    Check.same("needs with all its volume", 83, yard.lies(0, 2));
    yard.put(0, 1, 2, 0, 0);
    Check.same("needs without a draught", -1, yard.lies(0, 2));
  }

  static void promise17LaunchDayOnlyOnTheSlip() {
    Bounds.onlyAt("launchDay", EnumSet.of(Place.SLIP), yard -> yard.launchDay(0));
  }

  private static int tide(int day) {
    int[] a = {0, 6, 10, 12, 10, 6, 0, -6, -10, -12, -10, -6};
    int[] b = {4, 2, -1, -3, -4, -3, -1, 2};
    return 40 + a[day % 12] + b[day % 8];
  }

  /** From each day on, with each need: the day itself, too. */
  static void promise17LaunchDayFromThisDayOn() {
    boolean isToday = false;
    for (int need = 12; need <= 47; need += 5) {
      KeelHouse yard = Yards.drawn();
      yard.lay(0, 0);
      load(yard, 0, need);
      for (int day = 0; day < 50; day++) {
        int weather = yard.yard(1);
        int due = -1;
        for (int d = day; d <= day + 60 && due < 0; d++) {
          due = weather < 13 && tide(d) - 10 >= need ? d : -1;
          weather = (5 * weather + 3) % 16;
        }
        isToday |= due == day;
        Check.same("launchDay on " + day + " with " + need, due, yard.launchDay(0));
        yard.pass(1);
      }
    }
    Check.same("some were possible the same day", true, isToday);
  }

  /** No tide is higher than that of 399 and 400: what is possible at all is so on these days. */
  static void promise17LaunchDayOnTheLastDay() {
    KeelHouse yard = Yards.drawn();
    yard.lay(0, 0);
    for (int i = 0; i < 13; i++) {
      yard.pass(30);
    }
    yard.pass(8);
    load(yard, 0, tide(400) - 10);
    Check.same("399 is as high", tide(400), tide(399));
    Check.same("launchDay on 398", 399, yard.launchDay(0));
    yard.pass(1);
    Check.same("launchDay on 399", 399, yard.launchDay(0));
    yard.pass(1);
    Check.same("launchDay on 400", 400, yard.launchDay(0));
    yard.put(0, 41, 2, 0, 0);
    Check.same("a tenth more comes on no day", -1, yard.launchDay(0));
    yard.put(0, 900, 2, 0, 0);
    yard.put(0, 900, 2, 0, 0);
    Check.same("without a draught", -1, yard.launchDay(0));
  }

  static void section5TideByDayModulo12And8() {
    KeelHouse yard = new KeelHouse();
    for (int day = 0; day <= 400; day++) {
      Check.same("tide of " + day, tide(day), yard.yard(2));
      for (int spot = 0; spot < 6 && day < 25; spot++) {
        Check.same("over the ground of " + spot, yard.yard(2) - DEEPS[spot], yard.spot(spot, 3));
      }
      if (day < 400) {
        yard.pass(1);
      }
    }
  }

  static void section5FoulByDayModulo10() {
    for (Place place : Place.values()) {
      KeelHouse yard = place.yard();
      boolean isFouling = EnumSet.of(Place.AFLOAT, Place.READY, Place.PORT, Place.WAITING).contains(place);
      for (int i = 0; i < 21 && place != Place.SEA; i++) {
        int before = yard.lies(0, 1);
        yard.pass(1);
        int due = yard.yard(0) % 10 == 0 && isFouling ? before + 1 : before;
        Check.same("foul on " + yard.yard(0) + " at " + place, due, yard.lies(0, 1));
      }
    }
    KeelHouse sea = Place.SEA.yard();
    sea.net(0, 1);
    while (sea.yard(0) % 10 != 9) {
      sea.pass(1);
    }
    int before = sea.lies(0, 1);
    sea.pass(1);
    Check.same("foul at sea", before + 1, sea.lies(0, 1));
    Check.same("it is at sea", 1, sea.voyage(0, 0));
  }

  static void section5FoulIs0InTheDock() {
    KeelHouse yard = Place.AFLOAT.yard();
    yard.pass(30);
    Yards.calm(yard, 46);
    int foul = yard.lies(0, 1);
    Check.same("foul", true, foul >= 3);
    Check.same("shift to a berth tells it", foul, yard.shift(0, 4));
    Check.same("it stays", foul, yard.lies(0, 1));
    Check.same("shift into the dock tells it", foul, yard.shift(0, 2));
    Check.same("it is 0", 0, yard.lies(0, 1));
    Check.same("shift out of the dock", 0, yard.shift(0, 3));
    Check.same("it stays 0", 0, yard.lies(0, 1));
  }

  static void section5SpotsCost() {
    int[] costs = {0, 2, 2, 9, 2, 9, 0, 0, 0, 0, 0};
    for (Place place : Place.values()) {
      KeelHouse yard = place.yard();
      int before = yard.money(2, 0, 14);
      yard.pass(1);
      Check.same("a day at " + place, before - costs[place.ordinal()], yard.money(2, 0, 14));
    }
    KeelHouse slip = Yards.drawn();
    slip.lay(0, 1);
    slip.pass(1);
    Check.same("a day on the slip 1", -2, slip.money(2, 0, 14));
  }

  /** Planned of 1, cut from 40: as it is it lies much deeper than by plan. */
  private static KeelHouse heavyPlates() {
    KeelHouse yard = new KeelHouse();
    yard.draw(0, 40, 6, 40);
    for (int c = 0; c < 6; c++) {
      yard.plan(0, c, 1, 1, 1);
    }
    yard.lay(0, 0);
    yard.sheets(40, 120, 40, 1, 1);
    yard.order(0, 300);
    for (int trade = 0; trade < 3; trade++) {
      yard.teams(trade, 6);
    }
    yard.pass(1);
    yard.cutAll(0, 0);
    Yards.buildOn(yard, 0, 19);
    return yard;
  }

  static void section5NeedGoesByWhatItIsNotByPlan() {
    KeelHouse yard = heavyPlates();
    yard.put(0, 600, 2, 0, 0);
    int need = yard.lies(0, 2);
    Check.same("it lies deep", true, need > 25);
    while (yard.yard(1) >= 13 || yard.yard(2) - 10 >= need || yard.yard(2) - 10 < need - 10) {
      yard.pass(1);
    }
    Check.inVain(yard, "launch with too little a tide", -1, () -> yard.launch(0));
    Yards.calm(yard, need + 10);
    Check.same("launch with enough", 3, yard.launch(0));
    while (yard.yard(1) >= 13 || yard.yard(2) - 25 >= need || yard.yard(2) - 25 < need - 15) {
      yard.pass(1);
    }
    Check.inVain(yard, "shift with too little a tide", -1, () -> yard.shift(0, 5));
  }

  static void section5SpotAtEachPlace() {
    int[] spots = {-1, 0, 3, 2, 3, 2, -1, -1, -1, -1, -1};
    for (Place place : Place.values()) {
      KeelHouse yard = place.yard();
      int due = spots[place.ordinal()];
      Check.same("lies(0, 0) at " + place, due, yard.lies(0, 0));
      for (int spot = 0; spot < 6; spot++) {
        int other = place == Place.WAITING && spot == 5 ? 1 : -1;
        Check.same("spot(" + spot + ", 0) at " + place, spot == due ? 0 : other, yard.spot(spot, 0));
      }
    }
  }
}
