import java.util.EnumSet;

/** Section 7, promises 21 to 24, at their bounds. */
public final class Bounds7EnginesTest {
  public static void main(String[] args) throws Exception {
    Bounds.run(Bounds7EnginesTest.class);
  }

  private static KeelHouse without() {
    KeelHouse yard = new KeelHouse();
    yard.draw(0, 40, 6, 40);
    return yard;
  }

  static void promise21Power0To20() {
    Bounds.argument("power", Bounds7EnginesTest::without, 0, 20, (yard, power) -> yard.power(0, power));
  }

  static void promise21PowerOnlyDrawn() {
    Bounds.onlyAt("power", EnumSet.of(Place.DRAWN), yard -> yard.power(0, 3));
  }

  static void promise21PipeFromNode0To7() {
    Bounds.index("pipe, from", Bounds7EnginesTest::without, 0, 7, (yard, from) -> yard.pipe(0, from, 3, 1));
  }

  static void promise21PipeToNode0To7() {
    Bounds.index("pipe, to", Bounds7EnginesTest::without, 0, 7, (yard, to) -> yard.pipe(0, 3, to, 1));
  }

  static void promise21PipeWidth1To99() {
    Bounds.argument("pipe, width", Bounds7EnginesTest::without, 1, 99, (yard, width) -> yard.pipe(0, 0, 7, width));
  }

  static void promise21PipeToAnotherNode() {
    for (int node = 0; node < 8; node++) {
      KeelHouse yard = without();
      int n = node;
      Check.badArgument(yard, "pipe from " + n + " to itself", () -> yard.pipe(0, n, n, 5));
      Check.same("pipe to the next one", 0, yard.pipe(0, n, (n + 1) % 8, 5));
    }
  }

  static void promise21PipeTwelveAtMost() {
    KeelHouse yard = without();
    for (int pipe = 0; pipe < 12; pipe++) {
      Check.same("pipe", pipe, yard.pipe(0, 0, 7, 99));
      Check.same("flow", 99 * (pipe + 1), yard.engine(0, 2));
    }
    Check.badState(yard, "a thirteenth", () -> yard.pipe(0, 0, 7, 99));
    Check.same("narrow", 4095, yard.engine(0, 3));
    Check.same("a new net tells how many there were", 12, yard.net(0, 5));
    for (int pipe = 6; pipe < 12; pipe++) {
      Check.same("pipe", pipe, yard.pipe(0, 0, 7, 1));
    }
    Check.badState(yard, "a thirteenth", () -> yard.pipe(0, 0, 7, 1));
  }

  static void promise21PipeNotIfGone() {
    Bounds.onlyAt("pipe", Place.NOT_GONE, yard -> yard.pipe(0, 0, 7, 1));
  }

  static void promise22NetWidth1To99() {
    Bounds.argument("net", Bounds7EnginesTest::without, 1, 99, (yard, width) -> yard.net(0, width));
  }

  static void promise22NetNotIfGone() {
    Bounds.onlyAt("net", Place.NOT_GONE, yard -> yard.net(0, 1));
  }

  static void promise22ValveOfPipesThatAreThere() {
    KeelHouse yard = without();
    for (int many = 0; many <= 12; many++) {
      int beyond = many;
      for (int pipe : new int[] {-1, beyond}) {
        Check.noIndex(yard, "valve " + pipe + " of " + many, () -> yard.valve(0, pipe));
      }
      if (many < 12) {
        yard.pipe(0, 0, 7, 1);
        Check.same("valve of the last one", false, yard.valve(0, beyond));
        Check.same("it is shut", 1 << beyond, yard.engine(0, 5));
        Check.same("valve once more", true, yard.valve(0, beyond));
      }
    }
    Check.noIndex(yard, "valve of the most", () -> yard.valve(0, Integer.MAX_VALUE));
    Check.noIndex(yard, "valve of the least", () -> yard.valve(0, Integer.MIN_VALUE));
  }

  static void promise22ValveNotIfGone() {
    Bounds.onlyAt("valve", Place.NOT_GONE, yard -> yard.valve(0, 5));
  }

  static void promise23MendNotIfGone() {
    Bounds.onlyAt("mend", Place.NOT_GONE, yard -> yard.mend(0));
    KeelHouse whole = Place.AFLOAT.yard();
    Check.inVain(whole, "mend of none", 0, () -> whole.mend(0));
  }

  /** All jobs done, afloat: the bare hull, or one whose rig is not done, is refused. */
  static void promise23TrialOnlyAfloatWithAllJobsDone() {
    for (Place place : Place.values()) {
      KeelHouse yard = place.yard();
      Check.badState(yard, "trial at " + place, () -> yard.trial(0));
    }
    KeelHouse yard = Place.AFLOAT.yard();
    while (yard.works(0, 1) != (1 << 24) - 1) {
      Check.badState(yard, "trial with " + yard.works(0, 3) + " hours left", () -> yard.trial(0));
      yard.pass(1);
    }
    Bounds.taken(yard, "trial with none left", () -> yard.trial(0));
  }

  static void promise24EngineWhat0To8() {
    Bounds.argument("engine", Bounds7EnginesTest::without, 0, 8, (yard, what) -> yard.engine(0, what));
  }

  static void promise24SpeedPowerMinus1To2000() {
    Bounds.argument("speed", Bounds7EnginesTest::without, -1, 2000, (yard, power) -> yard.speed(0, power));
  }

  static void section7NoPipeAtAll() {
    KeelHouse yard = without();
    for (int what = 0; what <= 8; what++) {
      Check.same("engine(0, " + what + ") without pipes", 0, yard.engine(0, what));
    }
    Check.same("net tells there were none", 0, yard.net(0, 9));
  }

  static void section7AllPipesShutOrAllButOne() {
    KeelHouse yard = without();
    for (int pipe = 0; pipe < 12; pipe++) {
      yard.pipe(0, 0, 7, 7);
    }
    for (int pipe = 0; pipe < 12; pipe++) {
      int left = 11 - pipe;
      Check.same("valve", false, yard.valve(0, pipe));
      Check.same("flow with " + left + " open", 7 * left, yard.engine(0, 2));
      Check.same("narrow", 4095 & ~((2 << pipe) - 1), yard.engine(0, 3));
      Check.same("shut", (2 << pipe) - 1, yard.engine(0, 5));
      Check.same("which may be shut", 0, yard.engine(0, 7));
      Check.same("least flow with one more shut", Math.max(0, 7 * (left - 1)), yard.engine(0, 8));
    }
  }

  /** One pipe, a power of 10 that gives 20 at most: it is too slow, and each trial asks the luck once. */
  private static KeelHouse slow() {
    KeelHouse yard = Place.AFLOAT.yard();
    Yards.buildOn(yard, 0, 23);
    yard.net(0, 1);
    for (int pipe = 0; pipe < 6; pipe++) {
      yard.valve(0, pipe);
    }
    yard.pipe(0, 0, 7, 1);
    return yard;
  }

  static void section7AllPipesBurst() {
    KeelHouse yard = slow();
    yard.put(0, 900, 2, 0, 0);
    Check.same("whole", 1 << 6, yard.engine(0, 3));
    while (yard.engine(0, 4) == 0) {
      yard.trial(0);
    }
    Check.same("burst", 1 << 6, yard.engine(0, 4));
    for (int what : new int[] {2, 3, 6, 7, 8}) {
      Check.same("engine(0, " + what + ") with that burst", 0, yard.engine(0, what));
    }
    int luck = yard.yard(3);
    Check.same("trial with none that is narrow", 0, yard.trial(0));
    Check.same("asks no luck", luck, yard.yard(3));
    Check.same("mend", 1, yard.mend(0));
    Check.same("that costs 5", -5, yard.money(8, 0, 14));
    Check.same("flow", 1, yard.engine(0, 2));
  }

  /** Behind 24 jobs the luck is 8; it comes to 4 and to 0, and further on to 3. */
  static void section7LuckOf3And4InATrial() {
    KeelHouse yard = slow();
    yard.put(0, 900, 2, 0, 0);
    Check.same("luck behind 24 jobs", 8, yard.yard(3));
    boolean[] isSeen = new boolean[32];
    for (int i = 0; i < 40; i++) {
      int luck = (13 * yard.yard(3) + 5) % 32;
      Check.same("trial with a luck of " + luck, luck < 4 ? 1 : 0, yard.trial(0));
      Check.same("luck", luck, yard.yard(3));
      Check.same("burst", luck < 4 ? 1 << 6 : 0, yard.engine(0, 4));
      isSeen[luck] = true;
      yard.mend(0);
    }
    Check.same("a luck of 3 was seen", true, isSeen[3]);
    Check.same("a luck of 4 was seen", true, isSeen[4]);
    Check.same("it is too slow to be ready", 2, yard.hull(0, 3));
  }

  /** With all twelve narrow, each has a luck of its own, by their numbers. */
  static void section7TrialOfTwelvePipes() {
    KeelHouse yard = Place.AFLOAT.yard();
    Yards.buildOn(yard, 0, 23);
    yard.net(0, 1);
    for (int pipe = 0; pipe < 6; pipe++) {
      yard.pipe(0, 0, 7, 1);
    }
    yard.put(0, 900, 2, 0, 0);
    for (int i = 0; i < 5; i++) {
      int narrow = yard.engine(0, 3);
      int due = 0;
      int luck = yard.yard(3);
      for (int pipe = 0; pipe < 12; pipe++) {
        if ((narrow >> pipe & 1) == 1) {
          luck = (13 * luck + 5) % 32;
          due |= luck < 4 ? 1 << pipe : 0;
        }
      }
      Check.same("trial", Integer.bitCount(due), yard.trial(0));
      Check.same("burst", due, yard.engine(0, 4));
      Check.same("luck", luck, yard.yard(3));
      int paid = yard.money(8, 0, 14);
      Check.same("mend", Integer.bitCount(due), yard.mend(0));
      Check.same("that costs", paid - 5 * Integer.bitCount(due), yard.money(8, 0, 14));
    }
  }

  /** One pipe of so many, and so much aboard: a speed of just 4.0, and one of a step less. */
  static void section7TrialWithASpeedOfJust4() {
    int[][] cases = {{12, 392}, {15, 931}};
    for (int i = 0; i < 2; i++) {
      KeelHouse yard = Yards.afloat();
      Yards.buildOn(yard, 0, 23);
      yard.net(0, 1);
      for (int pipe = 0; pipe < 6; pipe++) {
        yard.valve(0, pipe);
      }
      yard.pipe(0, 0, 7, cases[i][0]);
      yard.put(0, Math.min(cases[i][1], 900), 2, 0, 0);
      if (cases[i][1] > 900) {
        yard.put(0, cases[i][1] - 900, 3, 0, 0);
      }
      Check.same("speed", i == 0 ? 4.0 : 4.0 - 32.0 / 262144, yard.speed(0, -1));
      Check.same("trial", 0, yard.trial(0));
      Check.same("tell", i == 0 ? "0 ready at 3" : "0 afloat at 3", yard.tell(0));
    }
  }

  static void section7TrialWithAListOf9And10() {
    for (double list : new double[] {9.0, 10.0}) {
      KeelHouse yard = Yards.afloat();
      Yards.buildOn(yard, 0, 23);
      int side = 0;
      yard.put(0, 800, 2, side, 20);
      while (yard.floats(0, 6) != list) {
        side++;
        yard.take(0, 0);
        yard.put(0, 800, 2, side, 20);
      }
      Check.same("it is fast enough", true, yard.speed(0, -1) >= 4.0);
      yard.trial(0);
      Check.same("tell with a list of " + list, list == 9.0 ? "0 ready at 3" : "0 afloat at 3", yard.tell(0));
    }
    KeelHouse heavy = Yards.afloat();
    Yards.buildOn(heavy, 0, 23);
    for (int i = 0; i < 3; i++) {
      heavy.put(0, 900, 2, 0, 0);
    }
    heavy.trial(0);
    Check.same("without a draught", "0 afloat at 3", heavy.tell(0));
  }

  static void section7TrialGoesByWhatIsWholeBehindIt() {
    KeelHouse yard = slow();
    yard.put(0, 900, 2, 0, 0);
    while (yard.yard(3) != 7) {
      yard.trial(0);
    }
    yard.take(0, 0);
    yard.net(0, 1);
    for (int pipe = 0; pipe < 6; pipe++) {
      yard.valve(0, pipe);
    }
    yard.pipe(0, 0, 7, 40);
    Check.same("it would be fast enough", true, yard.speed(0, -1) >= 4.0);
    Check.same("the next luck is 0: it bursts", 1, yard.trial(0));
    Check.same("so it is not ready", 2, yard.hull(0, 3));
    yard.mend(0);
    Check.same("mended, and with the next luck, it is whole", 0, yard.trial(0));
    Check.same("so it is ready", 3, yard.hull(0, 3));
  }

  /** A power of 0 is an engine of 5 tonnes that gives nothing. */
  static void section7PowerOf0And20() {
    for (int power : new int[] {0, 1, 20}) {
      KeelHouse other = without();
      for (int c = 0; c < 6; c++) {
        other.plan(0, c, 0, 0, 0);
      }
      other.power(0, power);
      other.net(0, 99);
      other.lay(0, 0);
      Check.same("gives before its job is done", 0, other.engine(0, 6));
      Check.same("weight before its job is done", 0.0, other.floats(0, 0));
      other.teams(0, 6);
      other.teams(1, 6);
      other.pass(30);
      Check.same("the engine is done", 1, other.job(0, 20, 2));
      Check.same("weight", power * 6.0 + 5.0, other.floats(0, 0));
      Check.near("lcg", 10.0, other.floats(0, 1));
      Check.near("kg", 1.5, other.floats(0, 3));
      Check.same("gives", 100 * power, other.engine(0, 6));
      Check.same("a speed", power > 0, other.speed(0, -1) > 0.0);
    }
  }

  static void section7GivesWhicheverIsLess() {
    KeelHouse yard = Place.AFLOAT.yard();
    for (int flow : new int[] {1, 48, 49, 50, 51, 52, 99}) {
      yard.net(0, 1);
      for (int pipe = 0; pipe < 6; pipe++) {
        yard.valve(0, pipe);
      }
      yard.pipe(0, 0, 7, flow);
      Check.same("gives with a flow of " + flow, Math.min(1000, 20 * flow), yard.engine(0, 6));
    }
  }

  /** 345 tonnes at a draught of 1.0 of 23 by 15 metres: at 8.0 it needs 391 * 3.2 and 204.8, just 1456. */
  static void section7NeedThatIsJustThePower() {
    KeelHouse yard = new KeelHouse();
    yard.draw(0, 23, 8, 60);
    yard.put(0, 345, 2, 0, 0);
    Check.same("t", 1.0, yard.floats(0, 4));
    Check.within("speed for 1456", 8.0, 8.0 + 32.0 / 262144, yard.speed(0, 1456));
    Check.within("speed for 1455", 7.99, 8.0 - 32.0 / 262144, yard.speed(0, 1455));
    Check.within("speed for 1457", 8.0 + 32.0 / 262144, 8.01, yard.speed(0, 1457));
  }

  static void section7SpeedForAPowerOf0And2000() {
    KeelHouse yard = new KeelHouse();
    yard.draw(0, 20, 4, 16);
    Check.same("speed for 0", 0.0, yard.speed(0, 0));
    yard.put(0, 100, 2, 0, 0);
    Check.same("speed for 0", 0.0, yard.speed(0, 0));
    Check.same("speed for 1", true, yard.speed(0, 1) > 0.5);
    double v = yard.speed(0, 2000);
    Check.same("speed for 2000", true, v > yard.speed(0, 1999) && v < 32.0);
    Check.same("18 halvings", 0.0, v * 262144 / 32 - (int) (v * 262144 / 32));
  }

  /** Two pipes ahead of a narrower one: either may be shut, that one may not. */
  static void promise24EnginePipesThatMayBeShut() {
    KeelHouse yard = without();
    yard.pipe(0, 0, 1, 5);
    yard.pipe(0, 0, 1, 5);
    yard.pipe(0, 1, 7, 5);
    Check.same("may be shut", 3, yard.engine(0, 7));
    Check.same("least", 0, yard.engine(0, 8));
    yard.pipe(0, 1, 7, 4);
    Check.same("may be shut", 0, yard.engine(0, 7));
    Check.same("least", 4, yard.engine(0, 8));
    yard.valve(0, 3);
    Check.same("a shut one is none", 3, yard.engine(0, 7));
    yard.pipe(0, 3, 4, 9);
    Check.same("one that leads nowhere", 3 + 16, yard.engine(0, 7));
  }

  /** 0 to 1, 1 to 7, 0 to 2, 2 to 7, 1 to 2 and 2 to 1: told by the flow with some of them shut. */
  static void promise22NetOfSixPipes() {
    int[][] shut = {{}, {0}, {1}, {2}, {3}, {4}, {5}, {0, 3}, {1, 2}, {0, 3, 5}, {1, 2, 4}, {0, 2}, {1, 3}};
    int[] flow = {18, 9, 9, 9, 9, 18, 18, 9, 9, 0, 0, 0, 0};
    for (int i = 0; i < shut.length; i++) {
      KeelHouse yard = without();
      Check.same("there were none", 0, yard.net(0, 9));
      Check.same("there are six", 6, yard.engine(0, 1));
      for (int pipe : shut[i]) {
        yard.valve(0, pipe);
      }
      Check.same("flow with " + java.util.Arrays.toString(shut[i]) + " shut", flow[i], yard.engine(0, 2));
    }
  }

  /** The shortest way takes the pipe 1: for the most it has to be given back, and less or nothing flows in it then. */
  static void section7NarrowPipesBehindOneThatIsGivenBack() {
    int[][] cases = {{1, 99, 2, 5, 1}, {50, 99, 100, 5, 50}, {99, 99, 198, 9, 99}, {50, 20, 70, 9, 20}, {2, 1, 3, 9, 1}};
    for (int[] c : cases) {
      KeelHouse yard = without();
      int[][] pipes = {{0, 1}, {1, 2}, {2, 7}, {0, 3}, {3, 4}, {4, 2}, {1, 5}, {5, 6}, {6, 7}};
      for (int pipe = 0; pipe < pipes.length; pipe++) {
        boolean isRound = pipe >= 3 && pipe <= 5;
        yard.pipe(0, pipes[pipe][0], pipes[pipe][1], c[isRound ? 1 : 0]);
      }
      Check.same("flow of " + c[0] + " and " + c[1], c[2], yard.engine(0, 2));
      Check.same("narrow", c[3], yard.engine(0, 3));
      Check.same("that one may be shut", 2, yard.engine(0, 7));
      Check.same("least", c[4], yard.engine(0, 8));
    }
  }

  static void promise24SpeedForNoneIsThatForGives() {
    for (Place place : Place.values()) {
      KeelHouse yard = place.yard();
      Check.same("speed(0, -1) at " + place, yard.speed(0, yard.engine(0, 6)), yard.speed(0, -1));
    }
  }

  /** What leads out of the shaft, or back into the boiler, makes nothing more. */
  static void section7PipesOutOfTheShaftAndIntoTheBoiler() {
    KeelHouse yard = without();
    yard.pipe(0, 0, 1, 9);
    yard.pipe(0, 1, 7, 5);
    yard.pipe(0, 7, 2, 9);
    yard.pipe(0, 2, 0, 9);
    yard.pipe(0, 1, 0, 9);
    yard.pipe(0, 7, 1, 9);
    Check.same("flow", 5, yard.engine(0, 2));
    Check.same("narrow", 2, yard.engine(0, 3));
    Check.same("may be shut", 4 + 8 + 16 + 32, yard.engine(0, 7));
    Check.same("least", 0, yard.engine(0, 8));
  }

  /** The first way to the shaft goes by 1 to 2, with 3 of its 9: no more than these 3 can be given back. */
  static void section7FlowThatGivesBackLessThanAPipeIsWide() {
    KeelHouse yard = without();
    int[][] pipes = {{0, 1, 3}, {1, 2, 9}, {2, 7, 3}, {0, 5, 10}, {5, 6, 10}, {6, 2, 10}, {1, 3, 10}, {3, 4, 10},
      {4, 7, 10}};
    for (int[] pipe : pipes) {
      yard.pipe(0, pipe[0], pipe[1], pipe[2]);
    }
    Check.same("flow", 6, yard.engine(0, 2));
    Check.same("narrow", 1 + 4, yard.engine(0, 3));
    Check.same("least", 3, yard.engine(0, 8));
  }

  /** Neither the bulkheads ahead of it nor the wires behind it bring the engine's weight and steam. */
  static void section7EngineAsJob20IsDoneAndNoOther() {
    KeelHouse yard = Yards.withoutStrakes();
    yard.teams(0, 6);
    yard.pass(10);
    yard.teams(1, 1);
    int seen = 0;
    for (int i = 0; i < 60 && yard.job(0, 21, 2) == 0; i++) {
      int done = yard.works(0, 1) >> 19 & 7;
      seen |= 1 << done;
      boolean isThere = (done & 2) != 0;
      Check.same("weight with " + done, isThere ? 65.0 : 0.0, yard.floats(0, 0));
      Check.same("gives with " + done, isThere ? 1000 : 0, yard.engine(0, 6));
      yard.pass(1);
    }
    Check.same("the engine was done ahead of the wires", true, (seen & (1 << 2 | 1 << 3)) != 0);
    KeelHouse other = Yards.withoutStrakes();
    other.teams(0, 6);
    other.pass(10);
    other.teams(1, 4);
    other.pass(4);
    Check.same("the bulkheads are done ahead of the engine", 1, other.works(0, 1) >> 19 & 7);
    Check.same("weight", 0.0, other.floats(0, 0));
    Check.same("gives", 0, other.engine(0, 6));
  }
}
