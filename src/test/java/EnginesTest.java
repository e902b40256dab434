import java.util.Random;

/** Promises 21 to 24: power, pipe, net, valve, mend, trial, engine, speed. */
public final class EnginesTest {
  public static void main(String[] args) {
    powers();
    pipes();
    pipesRefuse();
    nets();
    flows();
    backwards();
    randomNets();
    spares();
    gives();
    speeds();
    trials();
    burstPipes();
    trialsByWidth();
    trialsRefuse();
    trialTooSlow();
    goneShips();
    Check.end();
  }

  private static void powers() {
    KeelHouse yard = new KeelHouse();
    yard.draw(0, 40, 6, 40);
    Check.same("power", 0, yard.power(0, 20));
    Check.same("power", 20, yard.power(0, 0));
    Check.same("power", 0, yard.power(0, 7));
    Check.same("engine 0", 7, yard.engine(0, 0));
    Check.badArgument(yard, "power 21", () -> yard.power(0, 21));
    Check.badArgument(yard, "power -1", () -> yard.power(0, -1));
    Check.noIndex(yard, "power(1, 21)", () -> yard.power(1, 21));
    yard.lay(0, 0);
    Check.badState(yard, "power on the slip", () -> yard.power(0, 1));
    Check.badArgument(yard, "power 21 on the slip", () -> yard.power(0, 21));
  }

  private static void pipes() {
    KeelHouse yard = new KeelHouse();
    yard.draw(0, 40, 6, 40);
    for (int i = 0; i < 12; i++) {
      Check.same("pipe", i, yard.pipe(0, i % 7, 7, 1 + 8 * i));
    }
    Check.same("engine 1", 12, yard.engine(0, 1));
    Check.badState(yard, "a thirteenth pipe", () -> yard.pipe(0, 0, 7, 1));
    Check.badArgument(yard, "a thirteenth pipe of 100", () -> yard.pipe(0, 0, 7, 100));
    Check.same("flow", 1 + 57, yard.engine(0, 2));
    Check.same("narrow", 1 | 1 << 7, yard.engine(0, 3));
    Check.same("a valve shuts", false, yard.valve(0, 7));
    Check.same("flow", 1, yard.engine(0, 2));
    Check.same("shut ones", 1 << 7, yard.engine(0, 5));
    Check.same("a valve opens", true, yard.valve(0, 7));
    Check.same("flow", 58, yard.engine(0, 2));
    Check.same("shut ones", 0, yard.engine(0, 5));
  }

  private static void pipesRefuse() {
    KeelHouse yard = new KeelHouse();
    yard.draw(0, 40, 6, 40);
    Check.noIndex(yard, "pipe from 8", () -> yard.pipe(0, 8, 7, 1));
    Check.noIndex(yard, "pipe from 8 to 8 of 0", () -> yard.pipe(0, 8, 8, 0));
    Check.noIndex(yard, "pipe from -1", () -> yard.pipe(0, -1, 7, 1));
    Check.noIndex(yard, "pipe to 8", () -> yard.pipe(0, 0, 8, 0));
    Check.noIndex(yard, "pipe to -1", () -> yard.pipe(0, 0, -1, 1));
    Check.noIndex(yard, "pipe(1, ..)", () -> yard.pipe(1, 0, 0, 0));
    Check.badArgument(yard, "pipe from 3 to 3", () -> yard.pipe(0, 3, 3, 1));
    Check.badArgument(yard, "pipe of 0", () -> yard.pipe(0, 0, 7, 0));
    Check.badArgument(yard, "pipe of 100", () -> yard.pipe(0, 0, 7, 100));
    Check.noIndex(yard, "valve of no pipe", () -> yard.valve(0, 0));
    Check.noIndex(yard, "valve(0, -1)", () -> yard.valve(0, -1));
    Check.noIndex(yard, "valve(1, 0)", () -> yard.valve(1, 0));
    Check.badArgument(yard, "engine 9", () -> yard.engine(0, 9));
    Check.badArgument(yard, "engine -1", () -> yard.engine(0, -1));
    Check.noIndex(yard, "engine(1, 9)", () -> yard.engine(1, 9));
  }

  private static void nets() {
    KeelHouse yard = new KeelHouse();
    yard.draw(0, 40, 6, 40);
    for (int i = 0; i < 9; i++) {
      yard.pipe(0, 0, 7, 99);
    }
    yard.valve(0, 0);
    Check.same("net", 9, yard.net(0, 10));
    Check.same("pipes", 6, yard.engine(0, 1));
    Check.same("flow", 20, yard.engine(0, 2));
    Check.same("all are open", 0, yard.engine(0, 5));
    Check.same("narrow", 5, yard.engine(0, 3));
    yard.valve(0, 1);
    Check.same("1 to 7 shut: by 1 to 2, 2 to 7 is full", 10, yard.engine(0, 2));
    yard.valve(0, 2);
    Check.same("by 1 to 2 alone", 10, yard.engine(0, 2));
    yard.valve(0, 4);
    Check.same("that is shut, too", 0, yard.engine(0, 2));
    yard.net(0, 10);
    yard.valve(0, 0);
    yard.valve(0, 3);
    Check.same("by 2 to 1 alone: narrow is 0 to 2", 4, yard.engine(0, 3));
    Check.same("flow", 10, yard.engine(0, 2));
    Check.same("net", 6, yard.net(0, 99));
    Check.same("flow", 198, yard.engine(0, 2));
    Check.badArgument(yard, "net of 0", () -> yard.net(0, 0));
    Check.badArgument(yard, "net of 100", () -> yard.net(0, 100));
    Check.noIndex(yard, "net(1, 0)", () -> yard.net(1, 0));
    yard.lay(0, 0);
    Check.same("net on the slip", 6, yard.net(0, 1));
    Check.same("a pipe on the slip", 6, yard.pipe(0, 0, 7, 1));
  }

  private static void flows() {
    KeelHouse yard = new KeelHouse();
    yard.draw(0, 40, 6, 40);
    Check.same("flow without pipes", 0, yard.engine(0, 2));
    Check.same("narrow without pipes", 0, yard.engine(0, 3));
    Check.same("least without pipes", 0, yard.engine(0, 8));
    yard.pipe(0, 7, 0, 50);
    Check.same("steam goes only the way of a pipe", 0, yard.engine(0, 2));
    yard.pipe(0, 0, 3, 50);
    yard.pipe(0, 3, 7, 20);
    Check.same("flow", 20, yard.engine(0, 2));
    Check.same("narrow", 4, yard.engine(0, 3));
    yard.pipe(0, 3, 7, 40);
    Check.same("flow", 50, yard.engine(0, 2));
    Check.same("narrow", 2, yard.engine(0, 3));
    yard.pipe(0, 3, 4, 9);
    Check.same("a blind end", 50, yard.engine(0, 2));
  }

  /** The first way found, 0 1 2 7, is in the way of the most: 0 1 7 and 0 2 7. */
  private static void backwards() {
    KeelHouse yard = new KeelHouse();
    yard.draw(0, 40, 6, 40);
    yard.pipe(0, 0, 1, 5);
    yard.pipe(0, 1, 2, 5);
    yard.pipe(0, 2, 7, 5);
    yard.pipe(0, 0, 2, 5);
    yard.pipe(0, 1, 3, 5);
    yard.pipe(0, 3, 4, 5);
    yard.pipe(0, 4, 7, 5);
    Check.same("flow", 10, yard.engine(0, 2));
    Check.same("narrow", 1 | 8, yard.engine(0, 3));
  }

  /** Against all cuts: the flow is the least that a cut carries, and narrow is what leaves the least such set. */
  private static void randomNets() {
    Random random = new Random(7);
    for (int run = 0; run < 300; run++) {
      KeelHouse yard = new KeelHouse();
      yard.draw(0, 40, 6, 40);
      int[][] pipes = new int[12][];
      for (int i = 0; i < 12; i++) {
        int from = random.nextInt(8);
        int to = (from + 1 + random.nextInt(7)) % 8;
        pipes[i] = new int[] {from, to, 1 + random.nextInt(run % 2 == 0 ? 99 : 3)};
        yard.pipe(0, from, to, pipes[i][2]);
      }
      int flow = Integer.MAX_VALUE;
      int reached = 127;
      for (int set = 1; set < 128; set += 2) {
        int carried = 0;
        for (int[] p : pipes) {
          carried += (set >> p[0] & 1) == 1 && (set >> p[1] & 1) == 0 ? p[2] : 0;
        }
        reached = carried < flow ? set : carried == flow ? reached & set : reached;
        flow = Math.min(flow, carried);
      }
      int narrow = 0;
      for (int i = 0; i < 12; i++) {
        narrow |= (reached >> pipes[i][0] & 1) == 1 && (reached >> pipes[i][1] & 1) == 0 ? 1 << i : 0;
      }
      Check.same("flow of net " + run, flow, yard.engine(0, 2));
      Check.same("narrow of net " + run, narrow, yard.engine(0, 3));
    }
  }

  private static void spares() {
    KeelHouse yard = new KeelHouse();
    yard.draw(0, 40, 6, 40);
    yard.net(0, 10);
    Check.same("spare", 1 << 4 | 1 << 5, yard.engine(0, 7));
    Check.same("least", 10, yard.engine(0, 8));
    yard.pipe(0, 0, 7, 30);
    Check.same("flow", 50, yard.engine(0, 2));
    Check.same("least", 20, yard.engine(0, 8));
    yard.valve(0, 4);
    Check.same("a shut one is no spare", 1 << 5, yard.engine(0, 7));
    yard.valve(0, 0);
    Check.same("spare with 0 to 1 shut", 1 << 1 | 1 << 3 | 1 << 5, yard.engine(0, 7));
    yard.valve(0, 6);
    yard.valve(0, 2);
    Check.same("no flow", 0, yard.engine(0, 2));
    Check.same("all open ones are spare then", 1 << 1 | 1 << 3 | 1 << 5, yard.engine(0, 7));
  }

  private static void gives() {
    KeelHouse yard = Yards.onSlip();
    Check.same("gives without an engine", 0, yard.engine(0, 6));
    Check.same("speed for that", 0.0, yard.speed(0, -1));
    yard.cutAll(0, 0);
    Yards.buildOn(yard, 0, 20);
    Check.same("gives by power", 1000, yard.engine(0, 6));
    yard.net(0, 20);
    Check.same("gives by flow", 800, yard.engine(0, 6));
    yard.net(0, 25);
    Check.same("gives by both", 1000, yard.engine(0, 6));
    yard.valve(0, 0);
    yard.valve(0, 2);
    Check.same("gives without flow", 0, yard.engine(0, 6));
  }

  private static double need(KeelHouse yard, double v) {
    double skin = 40 * (2 * yard.floats(0, 4) + 10);
    return skin * (8.0 + yard.lies(0, 1)) / 8.0 * v * v * v / 160.0
        + yard.floats(0, 0) * v * v * v * v / (40 * 300.0);
  }

  private static void speedsOf(KeelHouse yard) {
    double step = 32.0 / (1 << 18);
    for (int power : new int[] {1, 100, 999, 2000}) {
      double v = yard.speed(0, power);
      Check.same("speed(0, " + power + ") is a step", v / step, (double) (int) (v / step));
      Check.same("it needs no more than that", true, need(yard, v) <= power * 1.0000001);
      Check.same("a step faster would need more", true, need(yard, v + step) > power * 0.9999999);
    }
  }

  private static void speeds() {
    KeelHouse yard = Yards.drawn();
    yard.put(0, 300, 2, 0, 0);
    speedsOf(yard);
    Check.same("speed(0, 0)", 0.0, yard.speed(0, 0));
    KeelHouse ready = Yards.ready();
    ready.pass(20);
    Check.same("foul", true, ready.lies(0, 1) > 0);
    speedsOf(ready);
    Check.same("speed for what it gives", ready.speed(0, 1000), ready.speed(0, -1));
    ready.net(0, 10);
    Check.same("speed for what it gives by flow", ready.speed(0, 400), ready.speed(0, -1));
    Check.badArgument(yard, "speed of -2", () -> yard.speed(0, -2));
    Check.badArgument(yard, "speed of 2001", () -> yard.speed(0, 2001));
    Check.noIndex(yard, "speed(1, -2)", () -> yard.speed(1, -2));
    for (int i = 0; i < 3; i++) {
      yard.put(0, 900, 2, 0, 0);
    }
    Check.same("speed without a draught", 0.0, yard.speed(0, 2000));
  }

  private static void trials() {
    KeelHouse yard = Yards.afloat();
    Yards.buildOn(yard, 0, 23);
    for (int i = 0; i < 12 && yard.hull(0, 3) == 2; i++) {
      int luck = yard.yard(3);
      int due = 0;
      int burst = 0;
      int narrow = yard.engine(0, 3);
      for (int pipe = 0; pipe < 6; pipe++) {
        if ((narrow >> pipe & 1) == 1) {
          luck = (13 * luck + 5) % 32;
          due += luck < 4 ? 1 : 0;
          burst |= luck < 4 ? 1 << pipe : 0;
        }
      }
      Check.same("trial", due, yard.trial(0));
      Check.same("luck behind it", luck, yard.yard(3));
      Check.same("burst ones", burst, yard.engine(0, 4));
      Check.same("ready by the speed as all is then", yard.speed(0, -1) >= 4.0, yard.hull(0, 3) == 3);
      yard.mend(0);
    }
    Check.same("tell", "0 ready at 3", yard.tell(0));
    Check.badState(yard, "trial of one that is ready", () -> yard.trial(0));
  }

  /** The narrow pipes are tried again and again, till one bursts. */
  private static void burstPipes() {
    KeelHouse yard = Yards.afloat();
    Yards.buildOn(yard, 0, 23);
    yard.net(0, 1);
    trialsByLuck(yard);
    int burst = 0;
    for (int i = 0; i < 40 && burst == 0; i++) {
      Check.same("40 is too little for 4.0", 2, yard.hull(0, 3));
      burst = yard.trial(0);
    }
    Check.same("a net laid anew is whole", 0, anewBehindBurst());
    Check.same("one burst, at most both", true, burst == 1 || burst == 2);
    int set = yard.engine(0, 4);
    Check.same("set of burst ones", burst, Integer.bitCount(set));
    Check.same("they are of the narrow ones", 0, set & ~5);
    Check.same("flow without them", 2 - burst, yard.engine(0, 2));
    Check.same("a burst one is no spare", 0, yard.engine(0, 7) & set);
    int before = yard.money(8, 0, 14);
    Check.same("mend", burst, yard.mend(0));
    Check.same("it costs 5 each", before - 5 * burst, yard.money(8, 0, 14));
    Check.same("all are whole", 0, yard.engine(0, 4));
    Check.same("flow", 2, yard.engine(0, 2));
    Check.same("mend of whole ones", 0, yard.mend(0));
    Check.same("that costs nothing", before - 5 * burst, yard.money(8, 0, 14));
  }

  private static int anewBehindBurst() {
    KeelHouse yard = Yards.afloat();
    Yards.buildOn(yard, 0, 23);
    yard.net(0, 1);
    for (int i = 0; i < 40 && yard.engine(0, 4) == 0; i++) {
      yard.trial(0);
    }
    yard.net(0, 1);
    return yard.engine(0, 4);
  }

  /** So many that the luck is each of its 32 numbers. */
  private static void trialsByLuck(KeelHouse yard) {
    for (int i = 0; i < 20; i++) {
      int first = (13 * yard.yard(3) + 5) % 32;
      int second = (13 * first + 5) % 32;
      int due = (first < 4 ? 1 : 0) + (second < 4 ? 1 : 0);
      Check.same("trial with the luck " + first + ", " + second, due, yard.trial(0));
      Check.same("burst ones", (first < 4 ? 1 : 0) + (second < 4 ? 4 : 0), yard.engine(0, 4));
      Check.same("luck", second, yard.yard(3));
      Check.same("mend", due, yard.mend(0));
    }
  }

  /** What is narrow may burst, so the speed is asked behind each trial. */
  private static void trialsByWidth() {
    boolean isSlow = false;
    boolean isFast = false;
    KeelHouse yard = Yards.afloat();
    Yards.buildOn(yard, 0, 23);
    for (int width = 1; width <= 30 && yard.hull(0, 3) == 2; width++) {
      yard.net(0, width);
      yard.valve(0, 2);
      yard.trial(0);
      double speed = yard.speed(0, -1);
      isSlow |= speed >= 3.5 && speed < 4.0;
      isFast |= speed >= 4.0 && speed < 4.5;
      Check.same("ready with the speed " + speed, speed >= 4.0, yard.hull(0, 3) == 3);
    }
    Check.same("a bit below 4.0 was tried", true, isSlow);
    Check.same("a bit above it, too", true, isFast);
  }

  private static void trialsRefuse() {
    KeelHouse yard = Yards.afloat();
    Check.badState(yard, "trial without the rig", () -> yard.trial(0));
    Check.noIndex(yard, "trial(1)", () -> yard.trial(1));
    Check.noIndex(yard, "mend(1)", () -> yard.mend(1));
    KeelHouse slip = Yards.built();
    Check.badState(slip, "trial on the slip", () -> slip.trial(0));
    KeelHouse drawn = Yards.drawn();
    Check.badState(drawn, "trial of a drawn one", () -> drawn.trial(0));
    Check.same("mend of a drawn one", 0, drawn.mend(0));
  }

  private static void trialTooSlow() {
    KeelHouse yard = Yards.afloat();
    Yards.buildOn(yard, 0, 23);
    yard.put(0, 400, 2, 0, 160);
    for (int i = 0; i < 8; i++) {
      yard.trial(0);
      yard.mend(0);
    }
    Check.same("with a list of 10 it is not ready", 2, yard.hull(0, 3));
    yard.take(0, 0);
    for (int i = 0; i < 3; i++) {
      yard.put(0, 900, 2, 0, 0);
    }
    yard.trial(0);
    Check.same("without a draught it is not ready", 2, yard.hull(0, 3));
    for (int i = 0; i < 3; i++) {
      yard.take(0, 0);
    }
    Yards.tryOut(yard, 0);
    Check.same("light again it is", 3, yard.hull(0, 3));
  }

  private static void goneShips() {
    KeelHouse yard = Yards.lost();
    Check.badState(yard, "pipe of a lost one", () -> yard.pipe(0, 0, 7, 1));
    Check.badArgument(yard, "pipe of 0 of a lost one", () -> yard.pipe(0, 0, 7, 0));
    Check.badState(yard, "net of a lost one", () -> yard.net(0, 1));
    Check.badArgument(yard, "net of 0 of a lost one", () -> yard.net(0, 0));
    Check.badState(yard, "valve of a lost one", () -> yard.valve(0, 0));
    Check.noIndex(yard, "valve 6 of a lost one", () -> yard.valve(0, 6));
    Check.badState(yard, "mend of a lost one", () -> yard.mend(0));
    Check.badState(yard, "trial of a lost one", () -> yard.trial(0));
  }
}
