import java.util.Arrays;

/**
 * A yard that draws, builds, fits out, sells and sails ships.
 * What its document writes in capitals has the same names here, in small letters.
 */
public final class KeelHouse {
  private static final int NONE = -1;

  private static final int STATIONS = 7;
  private static final int WATERLINES = 5;
  private static final int COMPARTMENTS = 6;
  private static final int ALL_COMPARTMENTS = 63;
  private static final int STRAKES = 18;
  private static final int JOBS = 24;
  private static final int PIPES = 12;
  private static final int NODES = 8;
  private static final int ITEMS = 6;
  private static final int LAST_DAY = 400;
  private static final int MONTHS = 14;
  private static final int ACCOUNTS = 9;

  private static final int DRAWN = 0;
  private static final int ON_SLIP = 1;
  private static final int AFLOAT = 2;
  private static final int READY = 3;
  private static final int LOST = 4;
  private static final int SOLD = 5;

  private static final int SLIPS = 2;
  private static final int DOCK = 2;
  private static final int FIRST_BERTH = 3;
  private static final int GATE_TIDE = 45;

  private static final int BARE = 0;
  private static final int CUT = 1;
  private static final int BEGUN = 2;
  private static final int FITTED = 3;

  private static final int JOB_BULKHEADS = 19;
  private static final int JOB_ENGINE = 20;
  private static final int JOB_WIRES = 21;
  private static final int JOB_PAINT = 22;
  private static final int JOB_RIG = 23;
  private static final int ALL_JOBS = (1 << JOBS) - 1;
  private static final int JOBS_TO_LAUNCH = (1 << JOB_ENGINE) - 1;
  private static final int JOBS_BUT_RIG = (1 << JOB_RIG) - 1;

  private static final int CAPSIZED = 10;

  private static final int STEEL = 0;
  private static final int WAGES = 1;
  private static final int SPOT_FEES = 2;
  private static final int CONTRACTS = 3;
  private static final int FINES = 4;
  private static final int FUEL = 5;
  private static final int FREIGHT = 6;
  private static final int MENDING = 7;
  private static final int PIPE_MENDING = 8;

  private static final int BUYER_WAITS = 0;
  private static final int UNDER_CONTRACT = 1;
  private static final int HANDED_OVER = 2;
  private static final int VOID = 3;
  private static final int GONE_TO_RIVAL = 4;
  private static final int LAST_FINE = 25;

  private static final int IN_YARD = 0;
  private static final int AT_SEA = 1;
  private static final int AT_PORT = 2;

  private static final int LOT_WAITS = 0;
  private static final int ABOARD = 1;
  private static final int DELIVERED = 2;
  private static final int LOT_LOST = 3;
  private static final int GRAIN = 1;
  private static final int FIRE = 2;

  private static final int[] FORM_ALONG = {
    8, 8, 8, 8, 8, 8, 8,
    3, 6, 8, 8, 8, 6, 2,
    1, 4, 7, 8, 6, 3, 0};
  private static final int[] FORM_UP = {
    8, 8, 8, 8, 8,
    4, 7, 8, 8, 8,
    1, 4, 6, 8, 8};
  private static final int[] SWELL = {
    0, 0, 0, 0, 0, 0, 0,
    4, 1, -3, -4, -3, 1, 4,
    -4, -1, 3, 4, 3, -1, -4};
  // In hundredths: a static row may hold no doubles, and n / 100.0 is the same double as the one written out.
  private static final int[] LIST_STEPS = {2, 9, 18, 27, 36, 47, 58, 70, 84, 100};
  private static final int[] SPOT_ROOMS = {60, 90, 70, 50, 70, 90};
  private static final int[] SPOT_DEEPS = {10, 0, 25, 5, 15, 25};
  private static final int[] TIDE_OF_12 = {0, 6, 10, 12, 10, 6, 0, -6, -10, -12, -10, -6};
  private static final int[] TIDE_OF_8 = {4, 2, -1, -3, -4, -3, -1, 2};
  private static final int[] JOB_TRADES = {
    0, 0, 0, 0, 0, 0, 0, 0, 0, 0, 0, 0, 0, 0, 0, 0, 0, 0, 0, 1, 1, 1, 2, 2};
  private static final int[] JOBS_BEFORE = {
    0,
    1, 1 << 1, 1 << 2,
    1, 1 << 4, 1 << 5 | 1 << 20,
    1, 1 << 7, 1 << 8,
    1, 1 << 10, 1 << 11,
    1, 1 << 13, 1 << 14,
    1, 1 << 16, 1 << 17,
    1 << 1 | 1 << 4 | 1 << 7 | 1 << 10 | 1 << 13 | 1 << 16,
    1 << 1 | 1 << 4 | 1 << 7,
    1 << 20 | 1 << 2 | 1 << 5 | 1 << 8 | 1 << 11 | 1 << 14 | 1 << 17,
    1 << 3 | 1 << 6 | 1 << 9 | 1 << 12 | 1 << 15 | 1 << 18,
    1 << 21 | 1 << 22};
  // Each job stands behind all that have to be done before it: the deck 6 waits for the engine, 20.
  private static final int[] JOB_ORDER = {
    0, 1, 4, 7, 10, 13, 16, 2, 5, 8, 11, 14, 17, 19, 20, 3, 6, 9, 12, 15, 18, 21, 22, 23};

  private final Ship[] ships = new Ship[3];
  private int shipCount;
  private final Ship[] spots = new Ship[6];
  private final Lot[] lots = new Lot[8];
  private int lotCount;
  private final Buyer[] buyers = new Buyer[4];
  private int buyerCount;
  private final Chart chart = new Chart();
  private final Store store = new Store();
  private final Crews crews;
  private final Crews sketch;
  private final Basin basin;
  private final int[] booked = new int[ACCOUNTS * 4 * MONTHS];
  private int funds = 5000;
  private int day;
  private int weather = 7;
  private int refused;

  public KeelHouse() {
    Works[] built = new Works[ships.length];
    Works[] sketched = new Works[ships.length];
    Lot[] cargo = new Lot[lots.length];
    for (int i = 0; i < ships.length; i++) {
      ships[i] = new Ship(i);
      built[i] = ships[i].works;
      sketched[i] = new Works();
    }
    for (int i = 0; i < lots.length; i++) {
      lots[i] = new Lot();
      cargo[i] = lots[i];
    }
    for (int i = 0; i < buyers.length; i++) {
      buyers[i] = new Buyer();
    }
    crews = new Crews(built, true);
    sketch = new Crews(sketched, false);
    basin = new Basin(cargo);
  }

  // ---------------------------------------------------------------- 1. lines

  public int draw(int form, int length, int depth, int halfWidth)
      throws IllegalArgumentException, IllegalStateException {
    needArgument(isWithin(form, 0, 2) && isWithin(length, 20, 80)
        && isWithin(depth, 4, 12) && isWithin(halfWidth, 16, 80));
    needState(shipCount < ships.length);
    ships[shipCount].hull.shape(form, length, depth, halfWidth);
    shipCount++;
    return shipCount - 1;
  }

  public int offset(int ship, int station, int waterline, int half)
      throws IndexOutOfBoundsException, IllegalArgumentException, IllegalStateException {
    Ship s = shipAt(ship);
    needIndex(isWithin(station, 0, STATIONS - 1) && isWithin(waterline, 0, WATERLINES - 1));
    needArgument(isWithin(half, 0, 80));
    needState(s.stage == DRAWN);
    int at = station * WATERLINES + waterline;
    int before = s.hull.halves[at];
    s.hull.halves[at] = half;
    return before;
  }

  public int fair(int ship) throws IndexOutOfBoundsException, IllegalStateException {
    Ship s = shipAt(ship);
    needState(s.stage == DRAWN);
    return s.hull.smooth();
  }

  public int hull(int ship, int what) throws IndexOutOfBoundsException, IllegalArgumentException {
    Ship s = shipAt(ship);
    needArgument(isWithin(what, 0, 3) || isWithin(what, 100, 134));
    return hullNumber(s, what);
  }

  public double water(int ship, int draught, int what)
      throws IndexOutOfBoundsException, IllegalArgumentException {
    Ship s = shipAt(ship);
    needArgument(isWithin(draught, 0, 8 * s.hull.depth) && isWithin(what, 0, 6));
    s.hull.measureAt(draught / 8.0);
    return unsigned(s.hull.measure(what));
  }

  public double draught(int ship, int weight)
      throws IndexOutOfBoundsException, IllegalArgumentException {
    Ship s = shipAt(ship);
    needArgument(isWithin(weight, 0, 99999));
    return s.hull.draughtFor(weight);
  }

  // ---------------------------------------------------------------- 2. floating

  public int put(int ship, int tonnes, int compartment, int side, int up)
      throws IndexOutOfBoundsException, IllegalArgumentException, IllegalStateException {
    Ship s = shipAt(ship);
    needIndex(isCompartment(compartment));
    needArgument(isWithin(tonnes, 1, 900) && isWithin(side, -64, 64) && isWithin(up, 0, 160));
    needState(!s.isGone() && s.itemCount < ITEMS);
    return s.addItem(tonnes, compartment, side, up);
  }

  public int take(int ship, int item) throws IndexOutOfBoundsException, IllegalStateException {
    Ship s = shipAt(ship);
    needIndex(isWithin(item, 0, s.itemCount - 1));
    needState(!s.isGone());
    return s.dropItem(item);
  }

  public int fill(int ship, int fills)
      throws IndexOutOfBoundsException, IllegalArgumentException, IllegalStateException {
    Ship s = shipAt(ship);
    needArgument(isWithin(fills, 0, 888888) && !hasNine(fills));
    needState(!s.isGone());
    int before = 0;
    int rest = fills;
    for (int c = 0; c < COMPARTMENTS; c++) {
      before += s.fills[c];
      s.fills[c] = rest % 10;
      rest /= 10;
    }
    return before;
  }

  public int bulkheads(int ship, int set)
      throws IndexOutOfBoundsException, IllegalArgumentException, IllegalStateException {
    Ship s = shipAt(ship);
    needArgument(isWithin(set, 0, 31));
    needState(s.stage <= ON_SLIP);
    int before = s.bulkheads;
    s.bulkheads = set;
    return before;
  }

  public double floats(int ship, int what)
      throws IndexOutOfBoundsException, IllegalArgumentException {
    Ship s = shipAt(ship);
    needArgument(isWithin(what, 0, 8));
    basin.settle(s, false);
    return unsigned(basin.measure(what));
  }

  public double flood(int ship, int holed, boolean isSet)
      throws IndexOutOfBoundsException, IllegalArgumentException {
    Ship s = shipAt(ship);
    needArgument(isWithin(holed, 0, ALL_COMPARTMENTS));
    basin.settle(s, false);
    double t = basin.lieFlooded(s, holed);
    return t < 0.0 || !isSet ? t : basin.flooded;
  }

  public int survives(int ship) throws IndexOutOfBoundsException {
    Ship s = shipAt(ship);
    basin.settle(s, false);
    return basin.pairsSurvived(s);
  }

  // ---------------------------------------------------------------- 3. strength

  public int plan(int ship, int compartment, int bottom, int sides, int deck)
      throws IndexOutOfBoundsException, IllegalArgumentException, IllegalStateException {
    Ship s = shipAt(ship);
    needIndex(isCompartment(compartment));
    needArgument(isWithin(bottom, 0, 40) && isWithin(sides, 0, 40) && isWithin(deck, 0, 40));
    needState(s.stage == DRAWN);
    int at = compartment * 3;
    int before = s.plans[at] + s.plans[at + 1] + s.plans[at + 2];
    s.plans[at] = bottom;
    s.plans[at + 1] = sides;
    s.plans[at + 2] = deck;
    return before;
  }

  public int limit(int ship, int limit) throws IndexOutOfBoundsException, IllegalArgumentException {
    Ship s = shipAt(ship);
    needArgument(isWithin(limit, 20, 400));
    int before = s.limit;
    s.limit = limit;
    return before;
  }

  public int lighten(int ship) throws IndexOutOfBoundsException, IllegalStateException {
    Ship s = shipAt(ship);
    needState(s.stage == DRAWN);
    Arrays.fill(s.plans, 3);
    int thicker = 0;
    for (int round = 0; round <= 80; round++) {
      basin.settle(s, true);
      if (basin.floatsAt < 0.0) {
        return -1;
      }
      int worst = basin.worstPlanned(s);
      if (basin.greatest <= s.limit) {
        return thicker;
      }
      if (round < 80) {
        thicker += s.thicken(worst);
      }
    }
    return -2;
  }

  public int strake(int ship, int compartment, int what)
      throws IndexOutOfBoundsException, IllegalArgumentException {
    Ship s = shipAt(ship);
    needIndex(isCompartment(compartment));
    needArgument(isWithin(what, 0, 5));
    return strakeNumber(s, compartment, what);
  }

  public double test(int ship, int sea, boolean isPlan, int what)
      throws IndexOutOfBoundsException, IllegalArgumentException {
    Ship s = shipAt(ship);
    needArgument(isWithin(sea, 0, 2) && isWithin(what, 0, 18));
    basin.settle(s, isPlan);
    if (basin.floatsAt < 0.0) {
      return -1.0;
    }
    basin.strain(s, sea, isPlan);
    return unsigned(basin.strainMeasure(what));
  }

  public int weakest(int ship, boolean isPlan) throws IndexOutOfBoundsException {
    Ship s = shipAt(ship);
    basin.settle(s, isPlan);
    return basin.weakestOf(s, isPlan);
  }

  // ---------------------------------------------------------------- 4. store

  public int sheets(int wide, int longer, int thickness, int price, int lead)
      throws IllegalArgumentException, IllegalStateException {
    needArgument(isWithin(wide, 10, 40) && isWithin(longer, 20, 120) && wide <= longer
        && isWithin(thickness, 3, 40) && isWithin(price, 1, 99) && isWithin(lead, 1, 30));
    needState(store.kinds < Store.MOST_KINDS);
    return store.addKind(wide, longer, thickness, price, lead);
  }

  public int order(int kind, int many)
      throws IndexOutOfBoundsException, IllegalArgumentException, IllegalStateException {
    needIndex(store.isKind(kind));
    needArgument(isWithin(many, 1, 300));
    needState(store.orders < Store.MOST_ORDERS);
    book(STEEL, null, -store.prices[kind] * many);
    return store.addOrder(kind, many, day + store.leads[kind]);
  }

  public int cut(int ship, int compartment, int strake, int kind)
      throws IndexOutOfBoundsException, IllegalArgumentException, IllegalStateException {
    Ship s = shipAt(ship);
    needIndex(isCompartment(compartment) && isWithin(strake, 0, 2) && store.isKind(kind));
    int at = compartment * 3 + strake;
    needArgument(store.isThickEnough(kind, s.plans[at]));
    needState(s.canBeCut(at));
    return cutStrake(s, at, kind);
  }

  public int cutAll(int ship, int kind) throws IndexOutOfBoundsException {
    Ship s = shipAt(ship);
    needIndex(store.isKind(kind));
    int many = 0;
    for (int at = 0; at < STRAKES; at++) {
      if (store.isThickEnough(kind, s.plans[at]) && s.canBeCut(at) && cutStrake(s, at, kind) >= 0) {
        many++;
      }
    }
    return many;
  }

  public int scrap(int ship) throws IndexOutOfBoundsException {
    return shipAt(ship).works.scrapCut();
  }

  public int store(int kind, int what) throws IndexOutOfBoundsException, IllegalArgumentException {
    needIndex(store.isKind(kind));
    needArgument(isWithin(what, 0, 8));
    return store.kindNumber(kind, what);
  }

  public int needs(int ship, int kind) throws IndexOutOfBoundsException {
    Ship s = shipAt(ship);
    needIndex(store.isKind(kind));
    int sum = 0;
    for (int at = 0; at < STRAKES; at++) {
      if (s.works.strakes[at] == BARE && store.isThickEnough(kind, s.plans[at])) {
        sum += store.sheetsFor(kind, s.hull.panelLength(), s.hull.panelBreadth(at));
      }
    }
    return sum;
  }

  // ---------------------------------------------------------------- 5. the water's edge

  public int lay(int ship, int slip) throws IndexOutOfBoundsException, IllegalStateException {
    Ship s = shipAt(ship);
    needIndex(isWithin(slip, 0, SLIPS - 1));
    needState(s.stage == DRAWN && hasRoomFor(slip, s));
    moor(s, slip);
    s.stage = ON_SLIP;
    s.tellHours();
    int free = 0;
    for (int i = 0; i < SLIPS; i++) {
      free += spots[i] == null ? 1 : 0;
    }
    return free;
  }

  public int launch(int ship) throws IndexOutOfBoundsException, IllegalStateException {
    Ship s = shipAt(ship);
    needState(s.stage == ON_SLIP && s.works.areDone(JOBS_TO_LAUNCH));
    basin.settle(s, false);
    int need = basin.waterNeeded();
    if (isStorm(weather) || !hasTide(s.spot, need)) {
      return -1;
    }
    int berth = freeBerth(s, need);
    if (berth == NONE) {
      return -2;
    }
    if (basin.list == CAPSIZED) {
      lose(s);
      return -3;
    }
    moor(s, berth);
    s.stage = AFLOAT;
    Buyer contract = contractOf(s);
    if (contract != null) {
      payIn(contract, contract.offer * 2 / 5);
    }
    return berth;
  }

  public int shift(int ship, int spot) throws IndexOutOfBoundsException, IllegalStateException {
    Ship s = shipAt(ship);
    needIndex(isWithin(spot, DOCK, spots.length - 1));
    needState((s.stage == AFLOAT || s.stage == READY) && s.spot != NONE && hasRoomFor(spot, s));
    basin.settle(s, false);
    int need = basin.waterNeeded();
    boolean isGateShut = (s.spot == DOCK || spot == DOCK) && tideOn(day) < GATE_TIDE;
    if (isStorm(weather) || isGateShut || !hasTide(s.spot, need) || !hasTide(spot, need)) {
      return -1;
    }
    int foul = s.foul;
    moor(s, spot);
    return foul;
  }

  public int spot(int spot, int what) throws IndexOutOfBoundsException, IllegalArgumentException {
    needIndex(isWithin(spot, 0, spots.length - 1));
    needArgument(isWithin(what, 0, 3));
    switch (what) {
      case 0: return numberOf(spots[spot]);
      case 1: return SPOT_ROOMS[spot];
      case 2: return SPOT_DEEPS[spot];
      default: return tideOn(day) - SPOT_DEEPS[spot];
    }
  }

  public int lies(int ship, int what) throws IndexOutOfBoundsException, IllegalArgumentException {
    Ship s = shipAt(ship);
    needArgument(isWithin(what, 0, 2));
    return liesNumber(s, what);
  }

  public int launchDay(int ship) throws IndexOutOfBoundsException, IllegalStateException {
    Ship s = shipAt(ship);
    needState(s.stage == ON_SLIP && s.spot != NONE);
    basin.settle(s, false);
    int need = basin.waterNeeded();
    int sky = weather;
    for (int d = day; d <= day + 60 && need >= 0; d++) {
      if (!isStorm(sky) && tideOn(d) - SPOT_DEEPS[s.spot] >= need) {
        return d;
      }
      sky = weatherAfter(sky);
    }
    return NONE;
  }

  // ---------------------------------------------------------------- 6. works

  public int teams(int trade, int teams) throws IndexOutOfBoundsException, IllegalArgumentException {
    needIndex(isWithin(trade, 0, 2));
    needArgument(isWithin(teams, 0, 6));
    int before = crews.teams[trade];
    crews.teams[trade] = teams;
    return before;
  }

  public int pass(int days) throws IllegalArgumentException, IllegalStateException {
    needArgument(isWithin(days, 1, 30));
    needState(day + days <= LAST_DAY);
    for (int i = 0; i < days; i++) {
      beginDay();
      crews.workDay(ships, shipCount, isRain(weather));
      book(WAGES, null, -3 * (crews.teams[0] + crews.teams[1] + crews.teams[2]));
      for (int s = 0; s < shipCount; s++) {
        sailDay(ships[s]);
      }
      for (int b = 0; b < buyerCount; b++) {
        endContractDay(buyers[b]);
      }
    }
    return day;
  }

  public int job(int ship, int job, int what)
      throws IndexOutOfBoundsException, IllegalArgumentException, IllegalStateException {
    Ship s = shipAt(ship);
    needIndex(isWithin(job, 0, JOBS - 1));
    needArgument(isWithin(what, 0, 8));
    needState(s.stage != DRAWN);
    return s.works.jobNumber(job, what);
  }

  public int works(int ship, int what)
      throws IndexOutOfBoundsException, IllegalArgumentException, IllegalStateException {
    Ship s = shipAt(ship);
    needArgument(isWithin(what, 0, 3));
    needState(s.stage != DRAWN);
    return s.works.worksNumber(what);
  }

  public int yard(int what) throws IllegalArgumentException {
    needArgument(isWithin(what, 0, 13));
    return yardNumber(what);
  }

  public int done(int ship, int more)
      throws IndexOutOfBoundsException, IllegalArgumentException, IllegalStateException {
    Ship s = shipAt(ship);
    needArgument(isWithin(more, 0, 3));
    needState(s.stage != DRAWN);
    sketch.copyFrom(crews);
    if (more < 3) {
      sketch.teams[more]++;
    }
    Works sketched = sketch.rows[s.number];
    sketched.cutBare();
    int sky = weather;
    for (int days = 0; days <= 120; days++) {
      if (sketched.areDone(JOBS_BUT_RIG)) {
        return days;
      }
      sky = weatherAfter(sky);
      sketch.workDay(ships, shipCount, isRain(sky));
    }
    return NONE;
  }

  // ---------------------------------------------------------------- 7. engines

  public int power(int ship, int power)
      throws IndexOutOfBoundsException, IllegalArgumentException, IllegalStateException {
    Ship s = shipAt(ship);
    needArgument(isWithin(power, 0, 20));
    needState(s.stage == DRAWN);
    int before = s.power;
    s.power = power;
    return before;
  }

  public int pipe(int ship, int from, int to, int width)
      throws IndexOutOfBoundsException, IllegalArgumentException, IllegalStateException {
    Ship s = shipAt(ship);
    needIndex(isWithin(from, 0, NODES - 1) && isWithin(to, 0, NODES - 1));
    needArgument(from != to && isWithin(width, 1, 99));
    needState(s.net.count < PIPES && !s.isGone());
    return s.net.addPipe(from, to, width);
  }

  public int net(int ship, int width)
      throws IndexOutOfBoundsException, IllegalArgumentException, IllegalStateException {
    Ship s = shipAt(ship);
    needArgument(isWithin(width, 1, 99));
    needState(!s.isGone());
    int before = s.net.count;
    s.net.layAnew(width);
    return before;
  }

  public boolean valve(int ship, int pipe) throws IndexOutOfBoundsException, IllegalStateException {
    Ship s = shipAt(ship);
    needIndex(isWithin(pipe, 0, s.net.count - 1));
    needState(!s.isGone());
    s.net.isShut[pipe] = !s.net.isShut[pipe];
    return !s.net.isShut[pipe];
  }

  public int mend(int ship) throws IndexOutOfBoundsException, IllegalStateException {
    Ship s = shipAt(ship);
    needState(!s.isGone());
    int mended = s.net.mendAll();
    book(PIPE_MENDING, s, -5 * mended);
    return mended;
  }

  public int trial(int ship) throws IndexOutOfBoundsException, IllegalStateException {
    Ship s = shipAt(ship);
    needState(s.stage == AFLOAT && s.works.areDone(ALL_JOBS));
    int narrow = s.net.narrowSet();
    int burst = 0;
    for (int i = 0; i < s.net.count; i++) {
      if ((narrow >> i & 1) == 1 && crews.nextLuck() < 4) {
        s.net.isBurst[i] = true;
        burst++;
      }
    }
    basin.settle(s, false);
    if (basin.speedFor(s, s.gives()) >= 4.0 && basin.list < CAPSIZED) {
      s.stage = READY;
    }
    return burst;
  }

  public int engine(int ship, int what) throws IndexOutOfBoundsException, IllegalArgumentException {
    Ship s = shipAt(ship);
    needArgument(isWithin(what, 0, 8));
    return engineNumber(s, what);
  }

  public double speed(int ship, int power) throws IndexOutOfBoundsException, IllegalArgumentException {
    Ship s = shipAt(ship);
    needArgument(isWithin(power, NONE, 2000));
    basin.settle(s, false);
    return basin.speedFor(s, power == NONE ? s.gives() : power);
  }

  // ---------------------------------------------------------------- 8. class and sales

  public int buyer(int length, int speed, int rules, int days, int price)
      throws IllegalArgumentException, IllegalStateException {
    needArgument(isWithin(length, 20, 80) && isWithin(speed, 0, 12) && isWithin(rules, 0, 255)
        && isWithin(days, 10, 300) && isWithin(price, 100, 30000));
    needState(buyerCount < buyers.length);
    buyers[buyerCount].wish(length, speed, rules, day + days, price);
    buyerCount++;
    return buyerCount - 1;
  }

  public boolean bid(int buyer, int ship, int price)
      throws IndexOutOfBoundsException, IllegalArgumentException, IllegalStateException {
    Buyer b = buyerAt(buyer);
    Ship s = shipAt(ship);
    needArgument(isWithin(price, 1, 30000));
    needState(b.standing == BUYER_WAITS && !s.isGone() && contractOf(s) == null);
    if (price > b.price || price >= b.rivalIn(weather)) {
      b.standing = GONE_TO_RIVAL;
      return false;
    }
    b.standing = UNDER_CONTRACT;
    b.ship = s;
    b.offer = price;
    payIn(b, price / 5);
    if (s.stage == AFLOAT || s.stage == READY) {
      payIn(b, price * 2 / 5);
    }
    return true;
  }

  public int handOver(int buyer) throws IndexOutOfBoundsException, IllegalStateException {
    Buyer b = buyerAt(buyer);
    Ship s = b.ship;
    needState(b.standing == UNDER_CONTRACT);
    if (s == null || s.stage != READY || s.spot < FIRST_BERTH) {
      return -1;
    }
    int broken = brokenRules(s);
    if (!b.suits(s.hull.length, basin.speedFor(s, s.gives()), broken)) {
      return -1;
    }
    int rest = b.offer - b.paid;
    payIn(b, rest);
    b.standing = HANDED_OVER;
    s.stage = SOLD;
    unmoor(s);
    loseLots(s);
    return rest;
  }

  public int breaks(int ship) throws IndexOutOfBoundsException {
    return brokenRules(shipAt(ship));
  }

  public int sale(int buyer, int what) throws IndexOutOfBoundsException, IllegalArgumentException {
    Buyer b = buyerAt(buyer);
    needArgument(isWithin(what, 0, 10));
    return saleNumber(b, what);
  }

  public int bestBuyer(int ship) throws IndexOutOfBoundsException {
    Ship s = shipAt(ship);
    if (s.isGone() || contractOf(s) != null) {
      return NONE;
    }
    int broken = brokenRules(s);
    double speed = basin.speedFor(s, s.gives());
    int best = NONE;
    int most = 0;
    for (int i = 0; i < buyerCount; i++) {
      Buyer b = buyers[i];
      int offer = Math.min(b.price, b.rivalIn(weather) - 1);
      if (b.standing == BUYER_WAITS && b.suits(s.hull.length, speed, broken) && offer > most) {
        best = i;
        most = offer;
      }
    }
    return best;
  }

  // ---------------------------------------------------------------- 9. voyages

  public int port(int east, int north, int deep)
      throws IllegalArgumentException, IllegalStateException {
    needArgument(isWithin(east, 0, 99) && isWithin(north, 0, 99) && isWithin(deep, 20, 200));
    needState(chart.count < Chart.MOST_PORTS);
    return chart.addPort(east, north, deep);
  }

  public int lot(int at, int to, int tonnes, int sort, int freight)
      throws IndexOutOfBoundsException, IllegalArgumentException, IllegalStateException {
    needIndex(chart.isPort(at) && chart.isPort(to));
    needArgument(at != to && isWithin(tonnes, 1, 400) && isWithin(sort, 0, 2)
        && isWithin(freight, 1, 999));
    needState(lotCount < lots.length);
    lots[lotCount].set(at, to, tonnes, sort, freight);
    lotCount++;
    return lotCount - 1;
  }

  public int bunker(int ship, int tonnes)
      throws IndexOutOfBoundsException, IllegalArgumentException, IllegalStateException {
    Ship s = shipAt(ship);
    needArgument(isWithin(tonnes, 1, 400));
    needState(s.stage == READY && s.trip.where != AT_SEA && s.trip.fuel + tonnes <= 400);
    s.trip.fuel += tonnes;
    book(FUEL, s, -2 * tonnes);
    return s.trip.fuel;
  }

  public int stow(int ship, int lot, int compartment)
      throws IndexOutOfBoundsException, IllegalStateException {
    Ship s = shipAt(ship);
    Lot l = lotAt(lot);
    needIndex(isCompartment(compartment));
    needState(s.stage == READY && s.trip.where == AT_PORT && s.trip.port == l.at
        && l.standing == LOT_WAITS && mayStow(s, l, compartment));
    l.load(s, compartment);
    basin.settle(s, false);
    return basin.list;
  }

  public int unload(int ship) throws IndexOutOfBoundsException, IllegalStateException {
    Ship s = shipAt(ship);
    needState(s.stage == READY && s.trip.where == AT_PORT);
    int sum = 0;
    for (int i = 0; i < lotCount; i++) {
      if (lots[i].ship == s && lots[i].to == s.trip.port) {
        lots[i].leave(DELIVERED);
        sum += lots[i].freight;
      }
    }
    s.trip.earned += sum;
    book(FREIGHT, s, sum);
    return sum;
  }

  public int sail(int ship, int port)
      throws IndexOutOfBoundsException, IllegalArgumentException, IllegalStateException {
    Ship s = shipAt(ship);
    Trip trip = s.trip;
    needIndex(port == NONE || chart.isPort(port));
    needArgument(trip.where == AT_SEA || trip.port != port);
    needState(s.stage == READY && trip.where != AT_SEA);
    basin.settle(s, false);
    if (basin.list == CAPSIZED) {
      return -3;
    }
    if (s.gives() <= 0) {
      return -2;
    }
    if (!chart.isDeepEnough(port, basin.waterNeeded())) {
      return -1;
    }
    int way = chart.way(trip.port, port);
    unmoor(s);
    trip.start(port, way);
    return way;
  }

  public int voyage(int ship, int what) throws IndexOutOfBoundsException, IllegalArgumentException {
    Ship s = shipAt(ship);
    needArgument(isWithin(what, 0, 8));
    return voyageNumber(s, what);
  }

  public int ofLot(int lot, int what) throws IndexOutOfBoundsException, IllegalArgumentException {
    Lot l = lotAt(lot);
    needArgument(isWithin(what, 0, 3));
    return lotNumber(l, what);
  }

  public int route(int from, int set, boolean isWay)
      throws IndexOutOfBoundsException, IllegalArgumentException {
    needIndex(from == NONE || chart.isPort(from));
    needArgument(set >= 0 && set >> chart.count == 0);
    chart.reckonRoutes();
    return isWay ? chart.leastWay(from, set) : chart.firstPort(from, set);
  }

  // ---------------------------------------------------------------- 10. books

  public int money(int account, int ship, int month)
      throws IndexOutOfBoundsException, IllegalArgumentException {
    needIndex(isWithin(account, 0, ACCOUNTS) && isWithin(ship, NONE, 3)
        && (ship == 3 || ship < shipCount));
    needArgument(isWithin(month, 0, MONTHS));
    return sumBooked(account, ship, month);
  }

  public int cash() {
    return funds;
  }

  public int audit(int part) throws IllegalArgumentException {
    needArgument(isWithin(part, 1, 10));
    switch (part) {
      case 1: return auditLines();
      case 2: return auditFloating();
      case 3: return auditStrength();
      case 4: return auditStore();
      case 5: return auditEdge();
      case 6: return auditWorks();
      case 7: return auditEngines();
      case 8: return auditSales();
      case 9: return auditVoyages();
      default: return auditBooks();
    }
  }

  public boolean isSound() {
    return areBooksSound() && areSpotsSound() && store.areOffcutsSound() && areShipsSound()
        && areLotsSound() && areContractsSound();
  }

  public int bell() {
    refused++;
    return refused;
  }

  public String tell(int ship) throws IndexOutOfBoundsException {
    Ship s = shipAt(ship);
    StringBuilder line = new StringBuilder();
    line.append(s.number).append(' ').append(stageName(s.stage));
    if (s.trip.where == AT_SEA) {
      line.append(" at sea");
    } else if (s.trip.where == AT_PORT) {
      line.append(" at port ").append(s.trip.port);
    } else if (s.spot != NONE) {
      line.append(" at ").append(s.spot);
    }
    return line.toString();
  }

  public long digest() {
    long d = 58333;
    d = d * 31 + auditLines();
    d = d * 31 + auditFloating();
    d = d * 31 + auditStrength();
    d = d * 31 + auditStore();
    d = d * 31 + auditEdge();
    d = d * 31 + auditWorks();
    d = d * 31 + auditEngines();
    d = d * 31 + auditSales();
    d = d * 31 + auditVoyages();
    d = d * 31 + auditBooks();
    d = d * 31 + funds;
    d = d * 31 + refused;
    return d * 31 + (isSound() ? 1 : 0);
  }

  // ---------------------------------------------------------------- what is asked for, and refused

  private static void needIndex(boolean isThere) {
    if (!isThere) {
      throw new IndexOutOfBoundsException();
    }
  }

  private static void needArgument(boolean isRight) {
    if (!isRight) {
      throw new IllegalArgumentException();
    }
  }

  private static void needState(boolean isSo) {
    if (!isSo) {
      throw new IllegalStateException();
    }
  }

  private Ship shipAt(int ship) {
    needIndex(isWithin(ship, 0, shipCount - 1));
    return ships[ship];
  }

  private Buyer buyerAt(int buyer) {
    needIndex(isWithin(buyer, 0, buyerCount - 1));
    return buyers[buyer];
  }

  private Lot lotAt(int lot) {
    needIndex(isWithin(lot, 0, lotCount - 1));
    return lots[lot];
  }

  private static boolean isWithin(int value, int least, int most) {
    return value >= least && value <= most;
  }

  private static boolean isCompartment(int compartment) {
    return isWithin(compartment, 0, COMPARTMENTS - 1);
  }

  private static boolean hasNine(int digits) {
    boolean isFound = false;
    int rest = digits;
    for (int i = 0; i < COMPARTMENTS; i++) {
      isFound |= rest % 10 == 9;
      rest /= 10;
    }
    return isFound;
  }

  /** No -0.0 is ever told. */
  private static double unsigned(double value) {
    return value == 0.0 ? 0.0 : value;
  }

  /** The least whole number that is not below; the values here are far within an int. */
  private static int roundedUp(double value) {
    int whole = (int) value;
    return whole < value ? whole + 1 : whole;
  }

  private static int numberOf(Ship ship) {
    return ship == null ? NONE : ship.number;
  }

  // ---------------------------------------------------------------- the sky and the tide

  private static int weatherAfter(int weather) {
    return (5 * weather + 3) % 16;
  }

  private static boolean isRain(int weather) {
    return weather < 5;
  }

  private static boolean isStorm(int weather) {
    return weather >= 13;
  }

  private static int tideOn(int day) {
    return 40 + TIDE_OF_12[Math.floorMod(day, 12)] + TIDE_OF_8[Math.floorMod(day, 8)];
  }

  // ---------------------------------------------------------------- ships and spots

  private boolean hasRoomFor(int spot, Ship ship) {
    return spots[spot] == null && SPOT_ROOMS[spot] >= ship.hull.length;
  }

  /** A need below 0 tells that the ship does not float. */
  private boolean hasTide(int spot, int need) {
    return need >= 0 && isWithin(spot, 0, spots.length - 1) && tideOn(day) - SPOT_DEEPS[spot] >= need;
  }

  private int freeBerth(Ship ship, int need) {
    for (int spot = FIRST_BERTH; spot < spots.length; spot++) {
      if (hasRoomFor(spot, ship) && hasTide(spot, need)) {
        return spot;
      }
    }
    return NONE;
  }

  private void unmoor(Ship ship) {
    if (isWithin(ship.spot, 0, spots.length - 1)) {
      spots[ship.spot] = null;
    }
    ship.spot = NONE;
  }

  private void moor(Ship ship, int spot) {
    unmoor(ship);
    spots[spot] = ship;
    ship.spot = spot;
    if (spot == DOCK) {
      ship.foul = 0;
    }
  }

  private void lose(Ship ship) {
    ship.stage = LOST;
    unmoor(ship);
    ship.trip.end(IN_YARD, NONE);
    loseLots(ship);
  }

  private void loseLots(Ship ship) {
    for (int i = 0; i < lotCount; i++) {
      if (lots[i].ship == ship) {
        lots[i].leave(LOT_LOST);
      }
    }
  }

  private int cutStrake(Ship ship, int at, int kind) {
    int taken = store.takePanel(kind, ship.hull.panelLength(), ship.hull.panelBreadth(at));
    if (taken >= 0) {
      ship.works.strakes[at] = CUT;
      ship.works.thicknesses[at] = store.thicknesses[kind];
    }
    return taken;
  }

  // ---------------------------------------------------------------- a day

  private void beginDay() {
    day++;
    weather = weatherAfter(weather);
    store.receive(day);
    for (int i = 0; i < shipCount; i++) {
      beginDayOf(ships[i]);
    }
  }

  private void beginDayOf(Ship ship) {
    if (ship.spot != NONE) {
      book(SPOT_FEES, ship, ship.spot == DOCK ? -9 : -2);
    }
    if (day % 10 == 0 && (ship.stage == AFLOAT || ship.stage == READY) && ship.spot != DOCK) {
      ship.foul++;
    }
    if (ship.spot >= DOCK) {
      book(MENDING, ship, -40 * Integer.bitCount(ship.trip.holed));
      ship.trip.holed = 0;
    }
  }

  private void sailDay(Ship ship) {
    Trip trip = ship.trip;
    if (trip.where != AT_SEA) {
      return;
    }
    if (!trip.isWaiting) {
      goOn(ship);
      if (isStorm(weather)) {
        meetStorm(ship);
      }
    }
    if (ship.stage != LOST && (trip.isWaiting || trip.left <= 0.0)) {
      arrive(ship);
    }
  }

  private void goOn(Ship ship) {
    Trip trip = ship.trip;
    basin.settle(ship, false);
    int gives = ship.gives();
    double speed = basin.speedFor(ship, gives);
    double miles = (isStorm(weather) ? speed / 2.0 : speed) * 24.0;
    int burnt = (gives + 99) / 100 * 2;
    if (trip.fuel >= burnt) {
      trip.fuel -= burnt;
    } else {
      miles = miles / 4.0;
    }
    trip.left = trip.left - miles;
    trip.daysAtSea++;
  }

  private void meetStorm(Ship ship) {
    for (int i = 0; i < lotCount; i++) {
      if (lots[i].ship == ship && lots[i].sort == GRAIN) {
        lots[i].side = lots[i].side + 0.5;
      }
    }
    basin.settle(ship, false);
    if (basin.list == CAPSIZED) {
      lose(ship);
      return;
    }
    if (basin.greatestOfSeas(ship, 1) <= ship.limit) {
      return;
    }
    ship.trip.holed |= 1 << basin.weakestOf(ship, false);
    if (basin.lieFlooded(ship, ship.trip.holed) < 0.0) {
      lose(ship);
    }
  }

  private void arrive(Ship ship) {
    if (ship.trip.port != NONE) {
      ship.trip.end(AT_PORT, ship.trip.port);
      return;
    }
    int spot = freeBerthOrDock(ship);
    if (spot == NONE) {
      ship.trip.isWaiting = true;
      return;
    }
    moor(ship, spot);
    ship.trip.end(IN_YARD, NONE);
  }

  /** The yard is always deep enough for a ship that comes back, and the gate of the dock does not matter. */
  private int freeBerthOrDock(Ship ship) {
    for (int spot = FIRST_BERTH; spot < spots.length; spot++) {
      if (hasRoomFor(spot, ship)) {
        return spot;
      }
    }
    return hasRoomFor(DOCK, ship) ? DOCK : NONE;
  }

  // ---------------------------------------------------------------- contracts and books

  private Buyer contractOf(Ship ship) {
    for (int i = 0; i < buyerCount; i++) {
      if (buyers[i].standing == UNDER_CONTRACT && buyers[i].ship == ship) {
        return buyers[i];
      }
    }
    return null;
  }

  private void payIn(Buyer buyer, int amount) {
    buyer.paid += amount;
    book(CONTRACTS, buyer.ship, amount);
  }

  private void endContractDay(Buyer buyer) {
    if (buyer.standing != UNDER_CONTRACT) {
      return;
    }
    boolean isLost = buyer.ship != null && buyer.ship.stage == LOST;
    if (!isLost && day > buyer.due) {
      buyer.fines++;
      book(FINES, buyer.ship, -(buyer.offer / 50));
    }
    if (isLost || buyer.fines >= LAST_FINE) {
      payIn(buyer, -buyer.paid);
      buyer.standing = VOID;
    }
  }

  /** A ship of null is the yard. */
  private void book(int account, Ship ship, int amount) {
    int who = ship == null ? ships.length : ship.number;
    int month = Math.min(day / 30, MONTHS - 1);
    booked[(account * 4 + who) * MONTHS + month] += amount;
    funds += amount;
  }

  private int sumBooked(int account, int ship, int month) {
    int sum = 0;
    for (int i = 0; i < booked.length; i++) {
      int who = i / MONTHS % 4;
      boolean isAccount = account == ACCOUNTS || i / MONTHS / 4 == account;
      boolean isShip = ship == 3 || who == (ship == NONE ? ships.length : ship);
      boolean isMonth = month == MONTHS || i % MONTHS == month;
      sum += isAccount && isShip && isMonth ? booked[i] : 0;
    }
    return sum;
  }

  private int brokenRules(Ship ship) {
    basin.settle(ship, false);
    int set = ship.foul <= 8 ? 0 : 1 << 7;
    if (basin.floatsAt < 0.0) {
      return set | 127;
    }
    Hull hull = ship.hull;
    int flow = ship.net.mostFlow(NONE);
    set |= basin.floatsAt <= hull.depth * 0.75 ? 0 : 1;
    set |= basin.gm >= 0.25 && basin.list <= 2 ? 0 : 1 << 1;
    set |= basin.greatestOfSeas(ship, 0) <= ship.limit ? 0 : 1 << 2;
    set |= basin.pairsSurvived(ship) >= 3 ? 0 : 1 << 3;
    set |= basin.speedFor(ship, ship.gives()) >= 6.0 ? 0 : 1 << 4;
    set |= ship.net.leastFlow(flow) * 2 >= flow && flow > 0 ? 0 : 1 << 5;
    set |= size(basin.trim) <= hull.length / 40.0 ? 0 : 1 << 6;
    return set;
  }

  private static double size(double value) {
    return value < 0.0 ? -value : value;
  }

  // ---------------------------------------------------------------- cargo

  private boolean mayStow(Ship ship, Lot lot, int compartment) {
    if (compartment == 1 || tonnesIn(ship, compartment) + lot.tonnes > ship.hull.space(compartment)) {
      return false;
    }
    if (lot.sort != FIRE) {
      return !hasFire(ship, compartment);
    }
    return tonnesIn(ship, compartment) == 0
        && !hasFire(ship, compartment - 1) && !hasFire(ship, compartment + 1);
  }

  private int tonnesIn(Ship ship, int compartment) {
    int sum = 0;
    for (int i = 0; i < lotCount; i++) {
      sum += lots[i].isIn(ship, compartment) ? lots[i].tonnes : 0;
    }
    return sum;
  }

  private boolean hasFire(Ship ship, int compartment) {
    for (int i = 0; i < lotCount; i++) {
      if (lots[i].isIn(ship, compartment) && lots[i].sort == FIRE) {
        return true;
      }
    }
    return false;
  }

  // ---------------------------------------------------------------- what the face tells by number

  private static int hullNumber(Ship ship, int what) {
    switch (what) {
      case 0: return ship.hull.form;
      case 1: return ship.hull.length;
      case 2: return ship.hull.depth;
      case 3: return ship.stage;
      default: return ship.hull.halves[Math.floorMod(what - 100, STATIONS * WATERLINES)];
    }
  }

  private static int strakeNumber(Ship ship, int compartment, int what) {
    return ship.thickness(compartment, what % 3, what < 3);
  }

  private int liesNumber(Ship ship, int what) {
    switch (what) {
      case 0: return ship.spot;
      case 1: return ship.foul;
      default:
        basin.settle(ship, false);
        return basin.waterNeeded();
    }
  }

  private int yardNumber(int what) {
    switch (what) {
      case 0: return day;
      case 1: return weather;
      case 2: return tideOn(day);
      case 3: return crews.luck;
      case 4: return crews.teams[0];
      case 5: return crews.teams[1];
      case 6: return crews.teams[2];
      case 7: return shipCount;
      case 8: return store.kinds;
      case 9: return store.offcuts;
      case 10: return store.orders;
      case 11: return crews.faults;
      case 12: return crews.worked;
      default: return crews.wasted;
    }
  }

  private static int engineNumber(Ship ship, int what) {
    Net net = ship.net;
    switch (what) {
      case 0: return ship.power;
      case 1: return net.count;
      case 2: return net.mostFlow(NONE);
      case 3: return net.narrowSet();
      case 4: return net.setOf(net.isBurst);
      case 5: return net.setOf(net.isShut);
      case 6: return ship.gives();
      case 7: return net.spareSet(net.mostFlow(NONE));
      default: return net.leastFlow(net.mostFlow(NONE));
    }
  }

  private int saleNumber(Buyer buyer, int what) {
    switch (what) {
      case 0: return buyer.length;
      case 1: return buyer.speed;
      case 2: return buyer.rules;
      case 3: return buyer.due;
      case 4: return buyer.price;
      case 5: return buyer.standing;
      case 6: return numberOf(buyer.ship);
      case 7: return buyer.offer;
      case 8: return buyer.fines;
      case 9: return buyer.paid;
      default: return buyer.rivalIn(weather);
    }
  }

  private int voyageNumber(Ship ship, int what) {
    Trip trip = ship.trip;
    switch (what) {
      case 0: return trip.where;
      case 1: return trip.port;
      case 2: return trip.fuel;
      case 3: return trip.where == AT_SEA && !trip.isWaiting ? roundedUp(trip.left) : 0;
      case 4: return lotsAboard(ship);
      case 5: return tonnesAboard(ship);
      case 6: return trip.holed;
      case 7: return trip.earned;
      default: return trip.daysAtSea;
    }
  }

  private int lotsAboard(Ship ship) {
    int many = 0;
    for (int i = 0; i < lotCount; i++) {
      many += lots[i].ship == ship ? 1 : 0;
    }
    return many;
  }

  private int tonnesAboard(Ship ship) {
    int sum = 0;
    for (int i = 0; i < lotCount; i++) {
      sum += lots[i].ship == ship ? lots[i].tonnes : 0;
    }
    return sum;
  }

  private static int lotNumber(Lot lot, int what) {
    switch (what) {
      case 0: return lot.standing;
      case 1: return numberOf(lot.ship);
      case 2: return lot.compartment;
      default: return (int) (8.0 * lot.side);
    }
  }

  private static String stageName(int stage) {
    switch (stage) {
      case DRAWN: return "drawn";
      case ON_SLIP: return "slip";
      case AFLOAT: return "afloat";
      case READY: return "ready";
      case LOST: return "lost";
      default: return "sold";
    }
  }

  // ---------------------------------------------------------------- audits

  private int auditLines() {
    int e = 1;
    for (int i = 0; i < shipCount; i++) {
      for (int what = 0; what <= 3; what++) {
        e = e * 31 + hullNumber(ships[i], what);
      }
      for (int what = 100; what <= 134; what++) {
        e = e * 31 + hullNumber(ships[i], what);
      }
    }
    return e;
  }

  private int auditFloating() {
    int e = 2;
    for (int i = 0; i < shipCount; i++) {
      basin.settle(ships[i], false);
      for (int what = 0; what <= 8; what++) {
        e = e * 31 + (int) (64.0 * basin.measure(what));
      }
      e = e * 31 + basin.pairsSurvived(ships[i]);
    }
    return e;
  }

  private int auditStrength() {
    int e = 3;
    for (int i = 0; i < shipCount; i++) {
      for (int c = 0; c < COMPARTMENTS; c++) {
        for (int what = 0; what <= 5; what++) {
          e = e * 31 + strakeNumber(ships[i], c, what);
        }
      }
      basin.settle(ships[i], false);
      e = e * 31 + basin.weakestOf(ships[i], false);
    }
    return e;
  }

  private int auditStore() {
    int e = 4;
    for (int kind = 0; kind < store.kinds; kind++) {
      for (int what = 0; what <= 8; what++) {
        e = e * 31 + store.kindNumber(kind, what);
      }
    }
    return e;
  }

  private int auditEdge() {
    int e = 5;
    for (int spot = 0; spot < spots.length; spot++) {
      e = e * 31 + numberOf(spots[spot]);
    }
    for (int i = 0; i < shipCount; i++) {
      for (int what = 0; what <= 2; what++) {
        e = e * 31 + liesNumber(ships[i], what);
      }
    }
    return e;
  }

  private int auditWorks() {
    int e = 6;
    for (int what = 0; what <= 13; what++) {
      e = e * 31 + yardNumber(what);
    }
    for (int i = 0; i < shipCount; i++) {
      for (int what = 0; what <= 3 && ships[i].stage != DRAWN; what++) {
        e = e * 31 + ships[i].works.worksNumber(what);
      }
    }
    return e;
  }

  private int auditEngines() {
    int e = 7;
    for (int i = 0; i < shipCount; i++) {
      for (int what = 0; what <= 8; what++) {
        e = e * 31 + engineNumber(ships[i], what);
      }
    }
    return e;
  }

  private int auditSales() {
    int e = 8;
    for (int i = 0; i < buyerCount; i++) {
      for (int what = 0; what <= 10; what++) {
        e = e * 31 + saleNumber(buyers[i], what);
      }
    }
    for (int i = 0; i < shipCount; i++) {
      e = e * 31 + brokenRules(ships[i]);
    }
    return e;
  }

  private int auditVoyages() {
    int e = 9;
    for (int i = 0; i < shipCount; i++) {
      for (int what = 0; what <= 8; what++) {
        e = e * 31 + voyageNumber(ships[i], what);
      }
    }
    for (int i = 0; i < lotCount; i++) {
      for (int what = 0; what <= 3; what++) {
        e = e * 31 + lotNumber(lots[i], what);
      }
    }
    return e;
  }

  private int auditBooks() {
    int e = 10;
    for (int account = 0; account < ACCOUNTS; account++) {
      e = e * 31 + sumBooked(account, 3, MONTHS);
    }
    return e * 31 + funds;
  }

  // ---------------------------------------------------------------- soundness

  private boolean areBooksSound() {
    return funds == 5000 + sumBooked(ACCOUNTS, 3, MONTHS);
  }

  private boolean areSpotsSound() {
    for (int spot = 0; spot < spots.length; spot++) {
      if (spots[spot] != null && spots[spot].spot != spot) {
        return false;
      }
    }
    for (int i = 0; i < shipCount; i++) {
      int spot = ships[i].spot;
      if (isWithin(spot, 0, spots.length - 1) && spots[spot] != ships[i]) {
        return false;
      }
    }
    return true;
  }

  private boolean areShipsSound() {
    for (int i = 0; i < shipCount; i++) {
      if (!ships[i].works.isInOrder() || !ships[i].net.isSoundNet()) {
        return false;
      }
    }
    return true;
  }

  private boolean areLotsSound() {
    for (int i = 0; i < lotCount; i++) {
      Lot lot = lots[i];
      if (lot.standing != ABOARD) {
        continue;
      }
      if (lot.ship == null || lot.ship.stage != READY
          || tonnesIn(lot.ship, lot.compartment) > lot.ship.hull.space(lot.compartment)) {
        return false;
      }
    }
    return true;
  }

  private boolean areContractsSound() {
    for (int i = 0; i < shipCount; i++) {
      int many = 0;
      for (int b = 0; b < buyerCount; b++) {
        many += buyers[b].standing == UNDER_CONTRACT && buyers[b].ship == ships[i] ? 1 : 0;
      }
      if (many > (ships[i].stage == SOLD ? 0 : 1)) {
        return false;
      }
    }
    return true;
  }

  // ---------------------------------------------------------------- the parts

  /** The lines of one hull, and what the water does at a draught. */
  private static final class Hull {
    int form;
    // As small as a hull may be until it is drawn, so that nothing here is ever divided by 0.
    int length = 20;
    int depth = 4;
    final int[] halves = new int[STATIONS * WATERLINES];
    final double[] wides = new double[STATIONS];
    final double[] sections = new double[STATIONS];
    final double[] lifts = new double[STATIONS];
    final double[] row = new double[STATIONS];
    double volume;
    double middle;
    double high;
    double plane;
    double across;
    double along;
    double skin;

    void shape(int newForm, int newLength, int newDepth, int halfWidth) {
      form = newForm;
      length = newLength;
      depth = newDepth;
      for (int k = 0; k < STATIONS; k++) {
        for (int j = 0; j < WATERLINES; j++) {
          halves[k * WATERLINES + j] =
              halfWidth * FORM_ALONG[form * STATIONS + k] * FORM_UP[form * WATERLINES + j] / 64;
        }
      }
    }

    int smooth() {
      int changed = 0;
      for (int j = 0; j < WATERLINES; j++) {
        for (int k = 1; k < STATIONS - 1; k++) {
          int at = k * WATERLINES + j;
          int mean = (halves[at - WATERLINES] + halves[at + WATERLINES]) / 2;
          if (Math.abs(halves[at] - mean) > 6) {
            halves[at] = mean;
            changed++;
          }
        }
      }
      return changed;
    }

    /** Cuts each station at the water of a sea, and leaves wides, sections and lifts there. */
    void cutAt(double level, int sea) {
      double step = depth / 4.0;
      for (int k = 0; k < STATIONS; k++) {
        double t = level + depth * SWELL[sea * STATIONS + k] / 32.0;
        t = t < 0.0 ? 0.0 : t > depth ? depth : t;
        int at = k * WATERLINES;
        int j = (int) (t / step);
        j = j > 3 ? 3 : j;
        double r = t / step - j;
        double wide = (halves[at + j] + (halves[at + j + 1] - halves[at + j]) * r) / 8.0;
        double area = 0.0;
        double lift = 0.0;
        int m = 0;
        while (m < 4 && (m + 1) * step <= t) {
          double slab = (halves[at + m] + halves[at + m + 1]) / 8.0 * step;
          area += slab;
          lift += slab * ((m + 0.5) * step);
          m++;
        }
        if (m < 4) {
          double slab = (halves[at + m] / 8.0 + wide) * (t - m * step);
          area += slab;
          lift += slab * ((m * step + t) / 2.0);
        }
        wides[k] = wide;
        sections[k] = area;
        lifts[k] = lift;
      }
    }

    double simpson(double[] n) {
      return (n[0] + 4.0 * n[1] + 2.0 * n[2] + 4.0 * n[3] + 2.0 * n[4] + 4.0 * n[5] + n[6])
          * length / 18.0;
    }

    void measureAt(double t) {
      cutAt(t, 0);
      volume = simpson(sections);
      high = byVolume(simpson(lifts));
      for (int k = 0; k < STATIONS; k++) {
        row[k] = sections[k] * (k * length / 6.0);
      }
      middle = byVolume(simpson(row));
      for (int k = 0; k < STATIONS; k++) {
        row[k] = 2.0 * wides[k];
      }
      plane = simpson(row);
      for (int k = 0; k < STATIONS; k++) {
        row[k] = 2.0 / 3.0 * wides[k] * wides[k] * wides[k];
      }
      across = byVolume(simpson(row));
      for (int k = 0; k < STATIONS; k++) {
        double x = k * length / 6.0 - length / 2.0;
        row[k] = 2.0 * wides[k] * x * x;
      }
      along = byVolume(simpson(row));
      for (int k = 0; k < STATIONS; k++) {
        row[k] = 2.0 * t + 2.0 * wides[k];
      }
      skin = simpson(row);
    }

    private double byVolume(double sum) {
      return volume < 0.001 ? 0.0 : sum / volume;
    }

    double measure(int what) {
      switch (what) {
        case 0: return volume;
        case 1: return middle;
        case 2: return high;
        case 3: return plane;
        case 4: return across;
        case 5: return along;
        default: return skin;
      }
    }

    /** -1.0 if it would sink. */
    double draughtFor(double weight) {
      cutAt(depth, 0);
      if (simpson(sections) < weight) {
        return -1.0;
      }
      double low = 0.0;
      double high = depth;
      for (int i = 0; i < 20; i++) {
        double mid = (low + high) / 2.0;
        cutAt(mid, 0);
        if (simpson(sections) < weight) {
          low = mid;
        } else {
          high = mid;
        }
      }
      return high;
    }

    /** Of both halves beside a compartment on a waterline, together. */
    private int halvesBeside(int compartment, int waterline) {
      int at = compartment * WATERLINES + waterline;
      return halves[at] + halves[at + WATERLINES];
    }

    /** What a compartment has of the row of sections that was cut last. */
    double bears(int compartment) {
      return (sections[compartment] + sections[compartment + 1]) / 2.0 * length / 6.0;
    }

    double breadth(int compartment, int strake) {
      switch (strake) {
        case 0: return halvesBeside(compartment, 1) / 8.0;
        case 1: return 2.0 * depth;
        default: return halvesBeside(compartment, 4) / 8.0;
      }
    }

    double tankRoom(int compartment) {
      return halvesBeside(compartment, 1) / 16.0 * depth / 4.0 * length / 6.0;
    }

    int space(int compartment) {
      return (int) (halvesBeside(compartment, 3) / 16.0 * depth / 2.0 * length / 6.0);
    }

    int panelLength() {
      return length * 10 / 6;
    }

    int panelBreadth(int at) {
      return Math.max((int) (breadth(at / 3, at % 3) * 10.0), 1);
    }
  }

  /** Where one ship floats, and how it bears that; each answer stands until the next ship settles. */
  private static final class Basin {
    final Lot[] lots;
    double weight;
    double lcg;
    double tcg;
    double kg;
    double floatsAt;
    double gm;
    int list;
    double trim;
    double free;
    double skin;
    int flooded;
    double greatest;
    final double[] carries = new double[COMPARTMENTS];
    final double[] shears = new double[COMPARTMENTS + 1];
    final double[] moments = new double[COMPARTMENTS + 1];
    final double[] stresses = new double[COMPARTMENTS];
    final double[] worsts = new double[COMPARTMENTS];

    Basin(Lot[] lots) {
      this.lots = lots;
    }

    void settle(Ship ship, boolean isPlan) {
      weight = 0.0;
      lcg = 0.0;
      tcg = 0.0;
      kg = 0.0;
      Arrays.fill(carries, 0.0);
      addPlates(ship, isPlan);
      addItems(ship);
      addTanks(ship);
      addEngine(ship);
      addCargo(ship);
      if (weight != 0.0) {
        lcg = lcg / weight;
        tcg = tcg / weight;
        kg = kg / weight;
      }
      free = freeSurface(ship);
      floatsAt = ship.hull.draughtFor(weight);
      lieUpright(ship.hull);
    }

    private void addLoad(Hull hull, int compartment, double tonnes, double side, double up) {
      double far = (compartment + 0.5) * hull.length / 6.0;
      weight += tonnes;
      lcg += tonnes * far;
      tcg += tonnes * side;
      kg += tonnes * up;
      carries[compartment] += tonnes;
    }

    private void addPlates(Ship ship, boolean isPlan) {
      Hull hull = ship.hull;
      for (int at = 0; at < STRAKES; at++) {
        int c = at / 3;
        int strake = at % 3;
        int thickness = ship.thickness(c, strake, isPlan);
        if (thickness > 0) {
          double tonnes = hull.breadth(c, strake) * hull.length / 6.0 * thickness * 0.008;
          addLoad(hull, c, tonnes, 0.0, strake * hull.depth / 2.0);
        }
      }
    }

    private void addItems(Ship ship) {
      for (int i = 0; i < ship.itemCount; i++) {
        addLoad(ship.hull, ship.itemPlaces[i], ship.itemTonnes[i],
            ship.itemSides[i] / 8.0, ship.itemUps[i] / 8.0);
      }
    }

    private void addTanks(Ship ship) {
      Hull hull = ship.hull;
      for (int c = 0; c < COMPARTMENTS; c++) {
        addLoad(hull, c, hull.tankRoom(c) * ship.fills[c] / 8.0, 0.0, ship.fills[c] * hull.depth / 64.0);
      }
    }

    private void addEngine(Ship ship) {
      if (ship.works.isDone(JOB_ENGINE)) {
        addLoad(ship.hull, 1, ship.power * 6.0 + 5.0, 0.0, ship.hull.depth * 0.25);
      }
    }

    private void addCargo(Ship ship) {
      for (int c = 0; c < COMPARTMENTS; c++) {
        int tonnes = 0;
        double side = 0.0;
        for (int i = 0; i < lots.length; i++) {
          if (lots[i].isIn(ship, c)) {
            tonnes += lots[i].tonnes;
            side += lots[i].tonnes * lots[i].side;
          }
        }
        if (tonnes > 0) {
          addLoad(ship.hull, c, tonnes, side / tonnes, ship.hull.depth * 0.4);
        }
      }
    }

    private double freeSurface(Ship ship) {
      double sum = 0.0;
      for (int c = 0; c < COMPARTMENTS; c++) {
        if (isWithin(ship.fills[c], 1, 7)) {
          double b = ship.hull.breadth(c, 0);
          sum += b * b * b * ship.hull.length / 72.0;
        }
      }
      return weight == 0.0 ? 0.0 : sum / weight;
    }

    private void lieUpright(Hull hull) {
      gm = 0.0;
      list = CAPSIZED;
      trim = 0.0;
      if (floatsAt >= 0.0) {
        hull.measureAt(floatsAt);
        gm = hull.high + hull.across - kg - free;
        list = listBy(gm, tcg);
        trim = hull.along < 0.001 ? 0.0 : (lcg - hull.middle) * hull.length / hull.along;
        skin = hull.skin;
      }
    }

    private static int listBy(double gm, double tcg) {
      if (gm <= 0.05) {
        return CAPSIZED;
      }
      for (int k = 0; k < LIST_STEPS.length; k++) {
        if (size(tcg / gm) <= LIST_STEPS[k] / 100.0) {
          return k;
        }
      }
      return CAPSIZED;
    }

    double measure(int what) {
      switch (what) {
        case 0: return weight;
        case 1: return lcg;
        case 2: return tcg;
        case 3: return kg;
        case 4: return floatsAt;
        case 5: return gm;
        case 6: return list;
        case 7: return trim;
        default: return free;
      }
    }

    /** In tenths of a metre; -1 if it does not float. */
    int waterNeeded() {
      return floatsAt < 0.0 ? NONE : roundedUp(10 * floatsAt) + 3;
    }

    /** The draught at which the settled ship comes to lie when it is holed, -1.0 if it sinks. */
    double lieFlooded(Ship ship, int holed) {
      double t = floatsAt;
      flooded = spread(ship.bulkheads, holed);
      // Each further round floods one compartment more at least.
      for (int round = 0; round <= COMPARTMENTS && t >= 0.0; round++) {
        t = sinkTo(ship.hull, t);
        if (t <= ship.hull.depth * 0.875 || flooded == 0 || flooded == ALL_COMPARTMENTS) {
          return t;
        }
        int beside = (flooded << 1 | flooded >> 1) & ALL_COMPARTMENTS;
        flooded = spread(ship.bulkheads, flooded | beside);
      }
      return t;
    }

    private double sinkTo(Hull hull, double from) {
      double t = from;
      for (int i = 0; i < 12; i++) {
        hull.cutAt(t, 0);
        double sum = 0.0;
        for (int c = 0; c < COMPARTMENTS; c++) {
          sum += (flooded >> c & 1) == 1 ? hull.bears(c) * 0.75 : 0.0;
        }
        double next = hull.draughtFor(sum + weight);
        if (next < 0.0 || next == t) {
          return next;
        }
        t = next;
      }
      return t;
    }

    private static int spread(int bulkheads, int holed) {
      int set = holed;
      for (int round = 0; round < COMPARTMENTS; round++) {
        for (int k = 0; k < COMPARTMENTS - 1; k++) {
          int both = 3 << k;
          if ((bulkheads >> k & 1) == 0 && (set & both) != 0) {
            set |= both;
          }
        }
      }
      return set;
    }

    int pairsSurvived(Ship ship) {
      int many = 0;
      for (int c = 0; c < COMPARTMENTS - 1; c++) {
        many += lieFlooded(ship, 3 << c) >= 0.0 ? 1 : 0;
      }
      return many;
    }

    /** Fills shears, moments and stresses of the settled ship, which floats, in one sea. */
    void strain(Ship ship, int sea, boolean isPlan) {
      Hull hull = ship.hull;
      hull.cutAt(floatsAt, sea);
      double sum = 0.0;
      for (int c = 0; c < COMPARTMENTS; c++) {
        sum += hull.bears(c);
      }
      double share = sum < 0.001 ? 1.0 : weight / sum;
      greatest = 0.0;
      for (int c = 0; c < COMPARTMENTS; c++) {
        shears[c + 1] = shears[c] + carries[c] - hull.bears(c) * share;
        moments[c + 1] = moments[c] + (shears[c] + shears[c + 1]) / 2.0 * hull.length / 6.0;
        double ahead = size(moments[c]);
        double behind = size(moments[c + 1]);
        double modulus = ship.modulus(c, isPlan);
        stresses[c] = modulus == 0.0 ? 9999.0 : (ahead >= behind ? ahead : behind) / modulus;
        greatest = stresses[c] > greatest ? stresses[c] : greatest;
      }
    }

    double strainMeasure(int what) {
      if (what == 18) {
        return greatest;
      }
      int c = Math.floorMod(what, COMPARTMENTS);
      return what < 6 ? stresses[c] : what < 12 ? shears[c + 1] : moments[c + 1];
    }

    /** As it is, from one sea on to the crest. */
    double greatestOfSeas(Ship ship, int firstSea) {
      double most = 0.0;
      for (int sea = firstSea; sea <= 2; sea++) {
        strain(ship, sea, false);
        most = greatest > most ? greatest : most;
      }
      return most;
    }

    int weakestOf(Ship ship, boolean isPlan) {
      if (floatsAt < 0.0) {
        return NONE;
      }
      Arrays.fill(worsts, 0.0);
      for (int sea = 0; sea <= 2; sea++) {
        strain(ship, sea, isPlan);
        for (int c = 0; c < COMPARTMENTS; c++) {
          worsts[c] = stresses[c] > worsts[c] ? stresses[c] : worsts[c];
        }
      }
      int weakest = 0;
      for (int c = 1; c < COMPARTMENTS; c++) {
        weakest = worsts[c] > worsts[weakest] ? c : weakest;
      }
      return weakest;
    }

    /** By plan; leaves the greatest stress of all seas, and of several takes the first sea. */
    int worstPlanned(Ship ship) {
      int worst = 0;
      double most = -1.0;
      for (int sea = 0; sea <= 2; sea++) {
        strain(ship, sea, true);
        for (int c = 0; c < COMPARTMENTS; c++) {
          if (stresses[c] > most) {
            most = stresses[c];
            worst = c;
          }
        }
      }
      greatest = most;
      return worst;
    }

    double speedFor(Ship ship, int power) {
      if (floatsAt < 0.0) {
        return 0.0;
      }
      double low = 0.0;
      double high = 32.0;
      for (int i = 0; i < 18; i++) {
        double v = (low + high) / 2.0;
        double need = skin * (8.0 + ship.foul) / 8.0 * v * v * v / 160.0
            + weight * v * v * v * v / (ship.hull.length * 300.0);
        if (need <= power) {
          low = v;
        } else {
          high = v;
        }
      }
      return low;
    }
  }

  /** One ship: what it is, what it carries, and where it is. */
  private static final class Ship {
    final int number;
    int stage;
    int spot = NONE;
    int foul;
    int limit = 120;
    int power;
    int bulkheads;
    final Hull hull = new Hull();
    final Works works = new Works();
    final Net net = new Net();
    final Trip trip = new Trip();
    final int[] plans = new int[STRAKES];
    final int[] fills = new int[COMPARTMENTS];
    int itemCount;
    final int[] itemTonnes = new int[ITEMS];
    final int[] itemPlaces = new int[ITEMS];
    final int[] itemSides = new int[ITEMS];
    final int[] itemUps = new int[ITEMS];

    Ship(int number) {
      this.number = number;
      Arrays.fill(plans, 6);
    }

    boolean isGone() {
      return stage == LOST || stage == SOLD;
    }

    boolean isWorkedAt() {
      return stage == ON_SLIP || stage == AFLOAT;
    }

    int addItem(int tonnes, int compartment, int side, int up) {
      itemTonnes[itemCount] = tonnes;
      itemPlaces[itemCount] = compartment;
      itemSides[itemCount] = side;
      itemUps[itemCount] = up;
      itemCount++;
      return itemCount - 1;
    }

    int dropItem(int item) {
      itemCount--;
      for (int i = item; i < itemCount; i++) {
        itemTonnes[i] = itemTonnes[i + 1];
        itemPlaces[i] = itemPlaces[i + 1];
        itemSides[i] = itemSides[i + 1];
        itemUps[i] = itemUps[i + 1];
      }
      return itemCount;
    }

    int thickness(int compartment, int strake, boolean isPlan) {
      int at = compartment * 3 + strake;
      return isPlan ? plans[at] : works.fittedThickness(at);
    }

    double modulus(int compartment, boolean isPlan) {
      int depth = hull.depth;
      double p = hull.breadth(compartment, 0) * thickness(compartment, 0, isPlan);
      double q = hull.breadth(compartment, 1) * thickness(compartment, 1, isPlan);
      double r = hull.breadth(compartment, 2) * thickness(compartment, 2, isPlan);
      if (p + q + r == 0.0) {
        return 0.0;
      }
      double n = (q * depth / 2.0 + r * depth) / (p + q + r);
      double inertia = p * n * n + r * (depth - n) * (depth - n)
          + q * (depth * depth / 12.0 + (depth / 2.0 - n) * (depth / 2.0 - n));
      double edge = n >= depth - n ? n : depth - n;
      return inertia / edge / 100.0;
    }

    /** Makes a compartment's plan stronger by one step, and tells whether bottom or deck became more. */
    int thicken(int compartment) {
      int bottom = compartment * 3;
      int thinner = plans[bottom] <= plans[bottom + 2] ? bottom : bottom + 2;
      int more = plans[thinner] < 40 ? 1 : 0;
      plans[thinner] += more;
      if (plans[bottom + 1] <= plans[thinner] - 4) {
        plans[bottom + 1]++;
      }
      return more;
    }

    boolean canBeCut(int at) {
      return stage == ON_SLIP && works.strakes[at] == BARE;
    }

    void tellHours() {
      works.tellHours(0, hull.length * 2);
      for (int at = 0; at < STRAKES; at++) {
        int area = hull.panelLength() * hull.panelBreadth(at);
        works.tellHours(1 + at, plans[at] == 0 ? 0 : 8 + area / 100);
      }
      works.tellHours(JOB_BULKHEADS, 10 + 10 * Integer.bitCount(bulkheads));
      works.tellHours(JOB_ENGINE, 12 * power + 10);
      works.tellHours(JOB_WIRES, hull.length);
      works.tellHours(JOB_PAINT, 6 * COMPARTMENTS);
      works.tellHours(JOB_RIG, 20);
      works.isLaid = true;
    }

    int gives() {
      return works.isDone(JOB_ENGINE) ? Math.min(100 * power, 20 * net.mostFlow(NONE)) : 0;
    }
  }

  /** The jobs of one ship, and how far its strakes are. */
  private static final class Works {
    boolean isLaid;
    int end;
    final int[] hours = new int[JOBS];
    final int[] left = new int[JOBS];
    final int[] early = new int[JOBS];
    final int[] late = new int[JOBS];
    final int[] teamsToday = new int[JOBS];
    final boolean[] isFaulty = new boolean[JOBS];
    final int[] strakes = new int[STRAKES];
    final int[] thicknesses = new int[STRAKES];

    void tellHours(int job, int many) {
      hours[job] = many;
      left[job] = many;
    }

    boolean isDone(int job) {
      return isLaid && left[job] == 0;
    }

    int doneSet() {
      int set = 0;
      for (int job = 0; job < JOBS; job++) {
        set |= isDone(job) ? 1 << job : 0;
      }
      return set;
    }

    boolean areDone(int jobs) {
      return (jobs & ~doneSet()) == 0;
    }

    int fittedThickness(int at) {
      return strakes[at] == FITTED ? thicknesses[at] : 0;
    }

    int scrapCut() {
      int many = 0;
      for (int at = 0; at < STRAKES; at++) {
        if (strakes[at] == CUT) {
          strakes[at] = BARE;
          many++;
        }
      }
      return many;
    }

    void cutBare() {
      for (int at = 0; at < STRAKES; at++) {
        strakes[at] = strakes[at] == BARE ? CUT : strakes[at];
      }
    }

    void copyFrom(Works other) {
      isLaid = other.isLaid;
      System.arraycopy(other.left, 0, left, 0, JOBS);
      System.arraycopy(other.strakes, 0, strakes, 0, STRAKES);
    }

    private int days(int job) {
      return (left[job] + 7) / 8;
    }

    /** Reckons early, late and the end by what is left of the hours. */
    void reckon() {
      end = 0;
      for (int i = 0; i < JOBS; i++) {
        int job = JOB_ORDER[i];
        early[job] = 0;
        for (int b = 0; b < JOBS; b++) {
          if ((JOBS_BEFORE[job] >> b & 1) == 1) {
            early[job] = Math.max(early[job], early[b] + days(b));
          }
        }
        end = Math.max(end, early[job] + days(job));
      }
      Arrays.fill(late, end);
      for (int i = JOBS - 1; i >= 0; i--) {
        int job = JOB_ORDER[i];
        late[job] -= days(job);
        for (int b = 0; b < JOBS; b++) {
          if ((JOBS_BEFORE[job] >> b & 1) == 1) {
            late[b] = Math.min(late[b], late[job]);
          }
        }
      }
    }

    void beginDay() {
      Arrays.fill(teamsToday, 0);
      reckon();
    }

    boolean isOpen(int job, int done) {
      boolean isStrake = isWithin(job, 1, STRAKES);
      return (done >> job & 1) == 0 && (JOBS_BEFORE[job] & ~done) == 0 && teamsToday[job] < 2
          && (!isStrake || strakes[job - 1] == CUT || strakes[job - 1] == BEGUN);
    }

    int jobNumber(int job, int what) {
      reckon();
      switch (what) {
        case 0: return left[job];
        case 1: return JOB_TRADES[job];
        case 2: return isDone(job) ? 1 : 0;
        case 3: return days(job);
        case 4: return early[job];
        case 5: return late[job];
        case 6: return late[job] - early[job];
        case 7: return isFaulty[job] ? 1 : 0;
        default: return JOBS_BEFORE[job];
      }
    }

    int worksNumber(int what) {
      reckon();
      switch (what) {
        case 0: return end;
        case 1: return doneSet();
        case 2: return criticalSet();
        default: return hoursLeft();
      }
    }

    private int criticalSet() {
      int set = 0;
      for (int job = 0; job < JOBS; job++) {
        set |= late[job] == early[job] && !isDone(job) ? 1 << job : 0;
      }
      return set;
    }

    private int hoursLeft() {
      int sum = 0;
      for (int job = 0; job < JOBS; job++) {
        sum += left[job];
      }
      return sum;
    }

    boolean isInOrder() {
      int done = doneSet();
      for (int job = 0; job < JOBS; job++) {
        if ((done >> job & 1) == 1 && hours[job] > 0 && (JOBS_BEFORE[job] & ~done) != 0) {
          return false;
        }
      }
      return true;
    }
  }

  /** The teams of the yard; or, without luck, a sketch of how they would go on. */
  private static final class Crews {
    final Works[] rows;
    final boolean hasLuck;
    final int[] teams = new int[3];
    int luck;
    int faults;
    int worked;
    int wasted;

    Crews(Works[] rows, boolean hasLuck) {
      this.rows = rows;
      this.hasLuck = hasLuck;
    }

    void copyFrom(Crews other) {
      System.arraycopy(other.teams, 0, teams, 0, teams.length);
      for (int i = 0; i < rows.length; i++) {
        rows[i].copyFrom(other.rows[i]);
      }
    }

    int nextLuck() {
      luck = (13 * luck + 5) % 32;
      return luck;
    }

    void workDay(Ship[] ships, int shipCount, boolean isRain) {
      for (int i = 0; i < shipCount; i++) {
        if (ships[i].isWorkedAt()) {
          rows[i].beginDay();
        }
      }
      for (int trade = 0; trade < teams.length; trade++) {
        int hours = !isRain || trade == 1 ? 8 : trade == 0 ? 4 : 0;
        for (int team = 0; team < teams[trade] && hours > 0; team++) {
          sendTeam(ships, shipCount, trade, hours);
        }
      }
    }

    private void sendTeam(Ship[] ships, int shipCount, int trade, int hours) {
      Works chosen = null;
      int chosenJob = 0;
      int leastSlack = 0;
      for (int i = 0; i < shipCount; i++) {
        Works works = rows[i];
        int done = works.doneSet();
        for (int job = 0; job < JOBS && ships[i].isWorkedAt(); job++) {
          int slack = works.late[job] - works.early[job];
          boolean isPlace = job != JOB_RIG || ships[i].stage == AFLOAT;
          if (JOB_TRADES[job] == trade && isPlace && works.isOpen(job, done)
              && (chosen == null || slack < leastSlack)) {
            chosen = works;
            chosenJob = job;
            leastSlack = slack;
          }
        }
      }
      if (chosen != null) {
        work(chosen, chosenJob, hours);
      }
    }

    private void work(Works works, int job, int hours) {
      int did = Math.min(hours, works.left[job]);
      boolean isStrake = isWithin(job, 1, STRAKES);
      worked += did;
      wasted += hours - did;
      works.left[job] -= did;
      works.teamsToday[job]++;
      if (isStrake) {
        works.strakes[job - 1] = BEGUN;
      }
      if (works.left[job] > 0) {
        return;
      }
      if (hasLuck && !works.isFaulty[job] && nextLuck() < 3) {
        works.isFaulty[job] = true;
        works.left[job] = (works.hours[job] + 3) / 4;
        faults++;
      } else if (isStrake) {
        works.strakes[job - 1] = FITTED;
      }
    }
  }

  /** The steam net of one ship. */
  private static final class Net {
    int count;
    final int[] froms = new int[PIPES];
    final int[] tos = new int[PIPES];
    final int[] widths = new int[PIPES];
    final boolean[] isShut = new boolean[PIPES];
    final boolean[] isBurst = new boolean[PIPES];
    final int[] flows = new int[PIPES];
    final boolean[] isReached = new boolean[NODES];
    final int[] cameBy = new int[NODES];
    final int[] queue = new int[NODES];

    int addPipe(int from, int to, int width) {
      froms[count] = from;
      tos[count] = to;
      widths[count] = width;
      isShut[count] = false;
      isBurst[count] = false;
      count++;
      return count - 1;
    }

    void layAnew(int width) {
      count = 0;
      addPipe(0, 1, width);
      addPipe(1, 7, width);
      addPipe(0, 2, width);
      addPipe(2, 7, width);
      addPipe(1, 2, width);
      addPipe(2, 1, width);
    }

    int mendAll() {
      int mended = 0;
      for (int i = 0; i < count; i++) {
        mended += isBurst[i] ? 1 : 0;
        isBurst[i] = false;
      }
      return mended;
    }

    private boolean isOpen(int pipe) {
      return !isShut[pipe] && !isBurst[pipe];
    }

    int setOf(boolean[] marks) {
      int set = 0;
      for (int i = 0; i < count; i++) {
        set |= marks[i] ? 1 << i : 0;
      }
      return set;
    }

    /** The most that flows with one pipe shut (or NONE); leaves flows, and which nodes are reached. */
    int mostFlow(int without) {
      Arrays.fill(flows, 0);
      int sum = 0;
      int more = 1;
      // No more can go than all pipes hold, and each round adds 1 at least.
      for (int round = 0; round <= PIPES * 99 && more > 0; round++) {
        search(without);
        more = isReached[NODES - 1] ? pushMore() : 0;
        sum += more;
      }
      return sum;
    }

    private void search(int without) {
      for (int n = 0; n < NODES; n++) {
        isReached[n] = n == 0;
      }
      queue[0] = 0;
      int tail = 1;
      for (int head = 0; head < tail && head < NODES; head++) {
        for (int i = 0; i < count; i++) {
          int next = isOpen(i) && i != without ? beyond(i, queue[head]) : NONE;
          if (next != NONE && !isReached[next] && tail < NODES) {
            isReached[next] = true;
            cameBy[next] = i;
            queue[tail] = next;
            tail++;
          }
        }
      }
    }

    /** Where more steam can go from a node by an open pipe, or by less steam in it; NONE if nowhere. */
    private int beyond(int pipe, int node) {
      if (froms[pipe] == node && flows[pipe] < widths[pipe]) {
        return tos[pipe];
      }
      return tos[pipe] == node && flows[pipe] > 0 ? froms[pipe] : NONE;
    }

    /** Along the way that the search found to the shaft. */
    private int pushMore() {
      int more = 99;
      int node = NODES - 1;
      for (int step = 0; step < NODES && node != 0; step++) {
        int pipe = cameBy[node];
        boolean isForth = tos[pipe] == node;
        more = Math.min(more, isForth ? widths[pipe] - flows[pipe] : flows[pipe]);
        node = isForth ? froms[pipe] : tos[pipe];
      }
      node = NODES - 1;
      for (int step = 0; step < NODES && node != 0; step++) {
        int pipe = cameBy[node];
        boolean isForth = tos[pipe] == node;
        flows[pipe] += isForth ? more : -more;
        node = isForth ? froms[pipe] : tos[pipe];
      }
      return more;
    }

    int narrowSet() {
      mostFlow(NONE);
      int set = 0;
      for (int i = 0; i < count; i++) {
        set |= isOpen(i) && isReached[froms[i]] && !isReached[tos[i]] ? 1 << i : 0;
      }
      return set;
    }

    /** The pipes of which any one alone could be shut at no loss. */
    int spareSet(int flow) {
      int set = 0;
      for (int i = 0; i < count; i++) {
        set |= isOpen(i) && mostFlow(i) == flow ? 1 << i : 0;
      }
      return set;
    }

    int leastFlow(int flow) {
      int least = flow;
      for (int i = 0; i < count; i++) {
        least = isOpen(i) ? Math.min(least, mostFlow(i)) : least;
      }
      return least;
    }

    boolean isSoundNet() {
      int narrow = narrowSet();
      int sum = 0;
      for (int i = 0; i < count; i++) {
        sum += (narrow >> i & 1) == 1 ? widths[i] : 0;
      }
      return sum == mostFlow(NONE);
    }
  }

  /** Sheets of up to three kinds, the orders on their way, and what was left over. */
  private static final class Store {
    static final int MOST_KINDS = 3;
    static final int MOST_ORDERS = 6;
    static final int MOST_OFFCUTS = 8;

    int kinds;
    final int[] wides = new int[MOST_KINDS];
    final int[] longs = new int[MOST_KINDS];
    final int[] thicknesses = new int[MOST_KINDS];
    final int[] prices = new int[MOST_KINDS];
    final int[] leads = new int[MOST_KINDS];
    final int[] stocks = new int[MOST_KINDS];
    int orders;
    final int[] orderKinds = new int[MOST_ORDERS];
    final int[] orderMany = new int[MOST_ORDERS];
    final int[] orderDays = new int[MOST_ORDERS];
    int offcuts;
    final int[] offcutKinds = new int[MOST_OFFCUTS];
    final int[] offcutA = new int[MOST_OFFCUTS];
    final int[] offcutB = new int[MOST_OFFCUTS];

    boolean isKind(int kind) {
      return isWithin(kind, 0, kinds - 1);
    }

    int addKind(int wide, int longer, int thickness, int price, int lead) {
      wides[kinds] = wide;
      longs[kinds] = longer;
      thicknesses[kinds] = thickness;
      prices[kinds] = price;
      leads[kinds] = lead;
      kinds++;
      return kinds - 1;
    }

    int addOrder(int kind, int many, int comes) {
      orderKinds[orders] = kind;
      orderMany[orders] = many;
      orderDays[orders] = comes;
      orders++;
      return comes;
    }

    void receive(int day) {
      int kept = 0;
      for (int i = 0; i < orders; i++) {
        if (orderDays[i] == day) {
          stocks[orderKinds[i]] += orderMany[i];
        } else {
          orderKinds[kept] = orderKinds[i];
          orderMany[kept] = orderMany[i];
          orderDays[kept] = orderDays[i];
          kept++;
        }
      }
      orders = kept;
    }

    boolean isThickEnough(int kind, int plan) {
      return plan > 0 && thicknesses[kind] >= plan;
    }

    private static int rows(int measure, int sheet) {
      return sheet < 1 ? 0 : (measure + sheet - 1) / sheet;
    }

    private boolean isLaidAlong(int kind, int a, int b) {
      return rows(a, longs[kind]) * rows(b, wides[kind]) <= rows(a, wides[kind]) * rows(b, longs[kind]);
    }

    int sheetsFor(int kind, int a, int b) {
      return isLaidAlong(kind, a, b)
          ? rows(a, longs[kind]) * rows(b, wides[kind])
          : rows(a, wides[kind]) * rows(b, longs[kind]);
    }

    /** How many sheets were taken for a panel of a by b (0: an offcut), or -2 if there are too few. */
    int takePanel(int kind, int a, int b) {
      int piece = bestOffcut(kind, a, b);
      if (piece != NONE) {
        dropOffcut(piece);
        return 0;
      }
      int need = sheetsFor(kind, a, b);
      if (stocks[kind] < need) {
        return -2;
      }
      stocks[kind] -= need;
      keepRest(kind, a, b);
      return need;
    }

    private int bestOffcut(int kind, int a, int b) {
      int best = NONE;
      int leastArea = 0;
      for (int i = 0; i < offcuts; i++) {
        boolean covers = offcutA[i] >= a && offcutB[i] >= b || offcutA[i] >= b && offcutB[i] >= a;
        int area = offcutA[i] * offcutB[i];
        if (offcutKinds[i] == kind && covers && (best == NONE || area < leastArea)) {
          best = i;
          leastArea = area;
        }
      }
      return best;
    }

    private void keepRest(int kind, int a, int b) {
      boolean isAlong = isLaidAlong(kind, a, b);
      int sheetA = isAlong ? longs[kind] : wides[kind];
      int sheetB = isAlong ? wides[kind] : longs[kind];
      int x = rows(a, sheetA) * sheetA - a;
      int y = rows(b, sheetB) * sheetB - b;
      if (x >= 5) {
        addOffcut(kind, x, sheetB);
      }
      if (y >= 5) {
        addOffcut(kind, y, x >= 5 ? sheetA - x : sheetA);
      }
    }

    private void addOffcut(int kind, int a, int b) {
      if (offcuts == MOST_OFFCUTS) {
        dropOffcut(0);
      }
      offcutKinds[offcuts] = kind;
      offcutA[offcuts] = a;
      offcutB[offcuts] = b;
      offcuts++;
    }

    private void dropOffcut(int piece) {
      offcuts--;
      for (int i = piece; i < offcuts; i++) {
        offcutKinds[i] = offcutKinds[i + 1];
        offcutA[i] = offcutA[i + 1];
        offcutB[i] = offcutB[i + 1];
      }
    }

    int kindNumber(int kind, int what) {
      switch (what) {
        case 0: return wides[kind];
        case 1: return longs[kind];
        case 2: return thicknesses[kind];
        case 3: return prices[kind];
        case 4: return leads[kind];
        case 5: return stocks[kind];
        case 6: return onTheWay(kind);
        case 7: return offcutsOf(kind);
        default: return offcutArea(kind);
      }
    }

    private int onTheWay(int kind) {
      int sum = 0;
      for (int i = 0; i < orders; i++) {
        sum += orderKinds[i] == kind ? orderMany[i] : 0;
      }
      return sum;
    }

    private int offcutsOf(int kind) {
      int many = 0;
      for (int i = 0; i < offcuts; i++) {
        many += offcutKinds[i] == kind ? 1 : 0;
      }
      return many;
    }

    private int offcutArea(int kind) {
      int sum = 0;
      for (int i = 0; i < offcuts; i++) {
        sum += offcutKinds[i] == kind ? offcutA[i] * offcutB[i] : 0;
      }
      return sum;
    }

    boolean areOffcutsSound() {
      for (int i = 0; i < offcuts; i++) {
        int kind = offcutKinds[i];
        if (Math.max(offcutA[i], offcutB[i]) > longs[kind]
            || Math.min(offcutA[i], offcutB[i]) > wides[kind]) {
          return false;
        }
      }
      return true;
    }
  }

  /** What one buyer wishes, and how its contract stands. */
  private static final class Buyer {
    int length;
    int speed;
    int rules;
    int due;
    int price;
    int standing;
    Ship ship;
    int offer;
    int fines;
    int paid;

    void wish(int newLength, int newSpeed, int newRules, int newDue, int newPrice) {
      length = newLength;
      speed = newSpeed;
      rules = newRules;
      due = newDue;
      price = newPrice;
    }

    int rivalIn(int weather) {
      return 20 * length + 60 * speed + 30 * Integer.bitCount(rules) + 3 * weather;
    }

    boolean suits(int shipLength, double shipSpeed, int broken) {
      return shipLength >= length && shipSpeed >= speed && (broken & rules) == 0;
    }
  }

  /** Where one ship is when it is not at a spot, and what it did at sea. */
  private static final class Trip {
    int where;
    int port = NONE;
    boolean isWaiting;
    double left;
    int fuel;
    int holed;
    int earned;
    int daysAtSea;

    void start(int to, int way) {
      where = AT_SEA;
      port = to;
      left = way;
      isWaiting = false;
    }

    void end(int place, int atPort) {
      where = place;
      port = atPort;
    }
  }

  /** One lot of cargo. */
  private static final class Lot {
    int at;
    int to;
    int tonnes;
    int sort;
    int freight;
    int standing;
    Ship ship;
    int compartment = NONE;
    double side;

    void set(int newAt, int newTo, int newTonnes, int newSort, int newFreight) {
      at = newAt;
      to = newTo;
      tonnes = newTonnes;
      sort = newSort;
      freight = newFreight;
    }

    boolean isIn(Ship aShip, int aCompartment) {
      return ship == aShip && compartment == aCompartment;
    }

    void load(Ship onto, int into) {
      standing = ABOARD;
      ship = onto;
      compartment = into;
    }

    void leave(int newStanding) {
      standing = newStanding;
      ship = null;
      compartment = NONE;
    }
  }

  /** The ports, and the ways between them; NONE is the yard. */
  private static final class Chart {
    static final int MOST_PORTS = 6;

    int count;
    final int[] easts = new int[MOST_PORTS];
    final int[] norths = new int[MOST_PORTS];
    final int[] deeps = new int[MOST_PORTS];
    // The least way from a port through a set of further ones and home, by set and port.
    final int[] routes = new int[MOST_PORTS << MOST_PORTS];

    boolean isPort(int port) {
      return isWithin(port, 0, count - 1);
    }

    int addPort(int east, int north, int deep) {
      easts[count] = east;
      norths[count] = north;
      deeps[count] = deep;
      count++;
      return count - 1;
    }

    boolean isDeepEnough(int port, int need) {
      return !isPort(port) || need <= deeps[port];
    }

    int way(int a, int b) {
      int east = (isPort(a) ? easts[a] : 0) - (isPort(b) ? easts[b] : 0);
      int north = (isPort(a) ? norths[a] : 0) - (isPort(b) ? norths[b] : 0);
      return (Math.abs(east) + Math.abs(north)) * 5;
    }

    void reckonRoutes() {
      for (int set = 0; set < 1 << count; set++) {
        for (int port = 0; port < count; port++) {
          if ((set >> port & 1) == 0) {
            routes[set * MOST_PORTS + port] = leastWay(port, set);
          }
        }
      }
    }

    int leastWay(int from, int set) {
      int next = firstPort(from, set);
      return next == NONE ? way(from, NONE) : wayBy(from, next, set);
    }

    private int wayBy(int from, int next, int set) {
      return way(from, next) + routes[(set & ~(1 << next)) * MOST_PORTS + next];
    }

    int firstPort(int from, int set) {
      int first = NONE;
      for (int port = 0; port < count; port++) {
        boolean isIn = (set >> port & 1) == 1;
        if (isIn && (first == NONE || wayBy(from, port, set) < wayBy(from, first, set))) {
          first = port;
        }
      }
      return first;
    }
  }
}
