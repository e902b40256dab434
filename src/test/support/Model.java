import java.util.ArrayList;
import java.util.List;

/**
 * The document once more, as literally and as slowly as it can be told: every value is reckoned anew from what was
 * told, flows are looked for among all cuts and routes among all orders. Tests run it beside KeelHouse.
 */
public final class Model {
  static final class Ship {
    int number, form, length, depth, stage, bulkheads, limit = 120, spot = -1, foul, power;
    int[][] half = new int[7][5];
    List<int[]> items = new ArrayList<>();
    int[] fill = new int[6];
    int[][] plan = new int[6][3];
    String[][] strake = new String[6][3];
    int[][] cutFrom = new int[6][3];
    int[] hours = new int[24];
    int[] left = new int[24];
    boolean[] faulty = new boolean[24];
    boolean laid;
    List<Pipe> pipes = new ArrayList<>();
    int where, port = -1, fuel, holed, earned, seaDays;
    double way;
    boolean waits;
  }

  static final class Pipe {
    int from, to, width;
    boolean shut, burst;
  }

  static final class Buyer {
    int length, speed, rules, due, price, stands, ship = -1, our, fines, paid;
  }

  static final class Lot {
    int at, to, tonnes, sort, freight, stands, ship = -1, compartment = -1;
    double side;
  }

  static final class Load {
    int c;
    double tonnes, far, side, up;
  }

  static final class Floats {
    double weight, lcg, tcg, kg, t, gm, trim, free;
    int list;
    List<Load> loads;
  }

  final List<Ship> ships = new ArrayList<>();
  final List<int[]> kinds = new ArrayList<>();
  final List<int[]> orders = new ArrayList<>();
  final List<int[]> offcuts = new ArrayList<>();
  final List<Buyer> buyers = new ArrayList<>();
  final List<int[]> ports = new ArrayList<>();
  final List<Lot> lots = new ArrayList<>();
  final List<int[]> entries = new ArrayList<>();
  int[] stock = new int[3];
  int[] teams = new int[3];
  int day, weather = 7, luck, faults, worked, lost, refused;

  private static void arg(boolean ok) {
    if (!ok) throw new IllegalArgumentException();
  }

  private static void state(boolean ok) {
    if (!ok) throw new IllegalStateException();
  }

  private static void index(boolean ok) {
    if (!ok) throw new IndexOutOfBoundsException();
  }

  private static boolean in(int v, int a, int b) {
    return a <= v && v <= b;
  }

  private Ship ship(int n) {
    index(in(n, 0, ships.size() - 1));
    return ships.get(n);
  }

  // 1

  public int draw(int form, int length, int depth, int halfWidth) {
    arg(in(form, 0, 2));
    arg(in(length, 20, 80));
    arg(in(depth, 4, 12));
    arg(in(halfWidth, 16, 80));
    state(ships.size() < 3);
    Ship s = new Ship();
    s.number = ships.size();
    s.form = form;
    s.length = length;
    s.depth = depth;
    String a = new String[] {"8888888", "3688862", "1478630"}[form];
    String b = new String[] {"88888", "47888", "14688"}[form];
    for (int k = 0; k < 7; k++) {
      for (int j = 0; j < 5; j++) {
        s.half[k][j] = halfWidth * (a.charAt(k) - '0') * (b.charAt(j) - '0') / 64;
      }
    }
    for (int c = 0; c < 6; c++) {
      for (int t = 0; t < 3; t++) {
        s.plan[c][t] = 6;
        s.strake[c][t] = "bare";
      }
    }
    ships.add(s);
    return s.number;
  }

  public int offset(int ship, int station, int waterline, int half) {
    Ship s = ship(ship);
    index(in(station, 0, 6));
    index(in(waterline, 0, 4));
    arg(in(half, 0, 80));
    state(s.stage == 0);
    int was = s.half[station][waterline];
    s.half[station][waterline] = half;
    return was;
  }

  public int fair(int ship) {
    Ship s = ship(ship);
    state(s.stage == 0);
    int n = 0;
    for (int j = 0; j <= 4; j++) {
      for (int k = 1; k <= 5; k++) {
        int m = (s.half[k - 1][j] + s.half[k + 1][j]) / 2;
        int by = s.half[k][j] - m;
        if (by > 6 || by < -6) {
          s.half[k][j] = m;
          n++;
        }
      }
    }
    return n;
  }

  public int hull(int ship, int what) {
    Ship s = ship(ship);
    arg(in(what, 0, 3) || in(what, 100, 134));
    if (what == 0) return s.form;
    if (what == 1) return s.length;
    if (what == 2) return s.depth;
    if (what == 3) return s.stage;
    return s.half[(what - 100) / 5][(what - 100) % 5];
  }

  static double wide(Ship s, int k, double t) {
    double step = s.depth / 4.0;
    int j = (int) (t / step);
    if (j > 3) j = 3;
    double r = t / step - j;
    return (s.half[k][j] + (s.half[k][j + 1] - s.half[k][j]) * r) / 8.0;
  }

  static double section(Ship s, int k, double t) {
    double step = s.depth / 4.0;
    double sum = 0.0;
    int j = 0;
    for (; j < 4 && (j + 1) * step <= t; j++) {
      sum = sum + (s.half[k][j] + s.half[k][j + 1]) / 8.0 * step;
    }
    if (j < 4) sum = sum + (s.half[k][j] / 8.0 + wide(s, k, t)) * (t - j * step);
    return sum;
  }

  static double lift(Ship s, int k, double t) {
    double step = s.depth / 4.0;
    double sum = 0.0;
    int j = 0;
    for (; j < 4 && (j + 1) * step <= t; j++) {
      double term = (s.half[k][j] + s.half[k][j + 1]) / 8.0 * step;
      sum = sum + term * ((j + 0.5) * step);
    }
    if (j < 4) {
      double term = (s.half[k][j] / 8.0 + wide(s, k, t)) * (t - j * step);
      sum = sum + term * ((j * step + t) / 2.0);
    }
    return sum;
  }

  interface OfStation {
    double at(int k);
  }

  static double simpson(Ship s, OfStation n) {
    return (n.at(0) + 4.0 * n.at(1) + 2.0 * n.at(2) + 4.0 * n.at(3) + 2.0 * n.at(4) + 4.0 * n.at(5) + n.at(6))
        * s.length / 18.0;
  }

  static double liesAt(Ship s, int k) {
    return k * s.length / 6.0;
  }

  static double volume(Ship s, double t) {
    return simpson(s, k -> section(s, k, t));
  }

  static double ofWater(Ship s, double t, int what) {
    double v = volume(s, t);
    boolean none = v < 0.001;
    switch (what) {
      case 0: return v;
      case 1: return none ? 0.0 : simpson(s, k -> section(s, k, t) * liesAt(s, k)) / v;
      case 2: return none ? 0.0 : simpson(s, k -> lift(s, k, t)) / v;
      case 3: return simpson(s, k -> 2.0 * wide(s, k, t));
      case 4:
        return none ? 0.0 : simpson(s, k -> 2.0 / 3.0 * wide(s, k, t) * wide(s, k, t) * wide(s, k, t)) / v;
      case 5: {
        return none ? 0.0 : simpson(s, k -> {
          double x = liesAt(s, k) - s.length / 2.0;
          return 2.0 * wide(s, k, t) * x * x;
        }) / v;
      }
      default: return simpson(s, k -> 2.0 * t + 2.0 * wide(s, k, t));
    }
  }

  static double told(double d) {
    if (d != d) throw new AssertionError("NaN");
    return d + 0.0;
  }

  public double water(int ship, int draught, int what) {
    Ship s = ship(ship);
    arg(in(draught, 0, 8 * s.depth));
    arg(in(what, 0, 6));
    return told(ofWater(s, draught / 8.0, what));
  }

  static double draughtOf(Ship s, double weight) {
    double low = 0.0;
    double high = s.depth;
    for (int i = 1; i <= 20; i++) {
      double mid = (low + high) / 2.0;
      if (volume(s, mid) < weight) low = mid;
      else high = mid;
    }
    return volume(s, s.depth) < weight ? -1.0 : high;
  }

  public double draught(int ship, int weight) {
    Ship s = ship(ship);
    arg(in(weight, 0, 99999));
    return told(draughtOf(s, weight));
  }

  // 2

  private static boolean gone(Ship s) {
    return s.stage == 4 || s.stage == 5;
  }

  public int put(int ship, int tonnes, int compartment, int side, int up) {
    Ship s = ship(ship);
    index(in(compartment, 0, 5));
    arg(in(tonnes, 1, 900));
    arg(in(side, -64, 64));
    arg(in(up, 0, 160));
    state(!gone(s));
    state(s.items.size() < 6);
    s.items.add(new int[] {tonnes, compartment, side, up});
    return s.items.size() - 1;
  }

  public int take(int ship, int item) {
    Ship s = ship(ship);
    index(in(item, 0, s.items.size() - 1));
    state(!gone(s));
    s.items.remove(item);
    return s.items.size();
  }

  public int fill(int ship, int fills) {
    Ship s = ship(ship);
    arg(in(fills, 0, 888888));
    arg(!Integer.toString(fills).contains("9"));
    state(!gone(s));
    int sum = 0;
    String digits = String.format("%06d", fills);
    for (int c = 0; c < 6; c++) {
      sum += s.fill[c];
      s.fill[c] = digits.charAt(5 - c) - '0';
    }
    return sum;
  }

  public int bulkheads(int ship, int set) {
    Ship s = ship(ship);
    arg(in(set, 0, 31));
    state(s.stage == 0 || s.stage == 1);
    int was = s.bulkheads;
    s.bulkheads = set;
    return was;
  }

  static double breadth(Ship s, int c, int strake) {
    if (strake == 0) return (s.half[c][1] + s.half[c + 1][1]) / 8.0;
    if (strake == 1) return 2.0 * s.depth;
    return (s.half[c][4] + s.half[c + 1][4]) / 8.0;
  }

  static int thick(Ship s, int c, int strake, boolean plan) {
    if (plan) return s.plan[c][strake];
    return s.strake[c][strake].equals("fitted") ? s.cutFrom[c][strake] : 0;
  }

  private static void load(Ship s, List<Load> loads, int c, double tonnes, double side, double up) {
    Load l = new Load();
    l.c = c;
    l.tonnes = tonnes;
    l.far = (c + 0.5) * s.length / 6.0;
    l.side = side;
    l.up = up;
    loads.add(l);
  }

  private List<Load> loads(Ship s, boolean plan) {
    List<Load> all = new ArrayList<>();
    for (int c = 0; c < 6; c++) {
      for (int t = 0; t < 3; t++) {
        double tonnes = breadth(s, c, t) * s.length / 6.0 * thick(s, c, t, plan) * 0.008;
        load(s, all, c, tonnes, 0.0, t == 0 ? 0.0 : t == 1 ? s.depth / 2.0 : s.depth);
      }
    }
    for (int[] i : s.items) load(s, all, i[1], i[0], i[2] / 8.0, i[3] / 8.0);
    for (int c = 0; c < 6; c++) {
      double room = (s.half[c][1] + s.half[c + 1][1]) / 16.0 * s.depth / 4.0 * s.length / 6.0;
      load(s, all, c, room * s.fill[c] / 8.0, 0.0, s.fill[c] * s.depth / 64.0);
    }
    if (s.laid && s.left[20] == 0) load(s, all, 1, s.power * 6.0 + 5.0, 0.0, s.depth * 0.25);
    for (int c = 0; c < 6; c++) {
      double tonnes = 0;
      double moment = 0;
      for (Lot l : lots) {
        if (l.stands == 1 && l.ship == s.number && l.compartment == c) {
          tonnes += l.tonnes;
          moment += l.tonnes * l.side;
        }
      }
      if (tonnes > 0) load(s, all, c, tonnes, moment / tonnes, s.depth * 0.4);
    }
    return all;
  }

  private Floats floating(Ship s, boolean plan) {
    Floats f = new Floats();
    f.loads = loads(s, plan);
    for (Load l : f.loads) {
      f.weight += l.tonnes;
      f.lcg += l.tonnes * l.far;
      f.tcg += l.tonnes * l.side;
      f.kg += l.tonnes * l.up;
    }
    if (f.weight == 0.0) {
      f.lcg = f.tcg = f.kg = 0.0;
    } else {
      f.lcg /= f.weight;
      f.tcg /= f.weight;
      f.kg /= f.weight;
    }
    for (int c = 0; c < 6; c++) {
      if (s.fill[c] >= 1 && s.fill[c] <= 7) {
        double b = (s.half[c][1] + s.half[c + 1][1]) / 8.0;
        f.free = f.free + b * b * b * s.length / 72.0;
      }
    }
    f.free = f.weight == 0.0 ? 0.0 : f.free / f.weight;
    f.t = draughtOf(s, f.weight);
    f.list = 10;
    if (f.t == -1.0) return f;
    f.gm = ofWater(s, f.t, 2) + ofWater(s, f.t, 4) - f.kg - f.free;
    if (f.gm > 0.05) {
      double[] row = {0.02, 0.09, 0.18, 0.27, 0.36, 0.47, 0.58, 0.7, 0.84, 1.0};
      for (int k = 9; k >= 0; k--) {
        if (Math.abs(f.tcg / f.gm) <= row[k]) f.list = k;
      }
    }
    double along = ofWater(s, f.t, 5);
    f.trim = along < 0.001 ? 0.0 : (f.lcg - ofWater(s, f.t, 1)) * s.length / along;
    return f;
  }

  public double floats(int ship, int what) {
    Ship s = ship(ship);
    arg(in(what, 0, 8));
    Floats f = floating(s, false);
    return told(new double[] {f.weight, f.lcg, f.tcg, f.kg, f.t, f.gm, f.list, f.trim, f.free}[what]);
  }

  private static void spread(Ship s, boolean[] flooded) {
    for (boolean more = true; more; ) {
      more = false;
      for (int c = 0; c < 6; c++) {
        for (int d = 0; d < 6; d++) {
          boolean open = Math.abs(c - d) == 1 && (s.bulkheads & 1 << Math.min(c, d)) == 0;
          if (flooded[c] && !flooded[d] && open) {
            flooded[d] = true;
            more = true;
          }
        }
      }
    }
  }

  /** The draught (-1.0 if it sinks) and the set. */
  private double[] flooding(Ship s, int holed) {
    Floats f = floating(s, false);
    if (f.t == -1.0) return new double[] {-1.0, -1.0};
    boolean[] flooded = new boolean[6];
    for (int c = 0; c < 6; c++) flooded[c] = (holed & 1 << c) != 0;
    spread(s, flooded);
    double t = f.t;
    while (true) {
      for (int i = 0; i < 12; i++) {
        double sum = 0.0;
        for (int c = 0; c < 6; c++) {
          if (flooded[c]) sum += (section(s, c, t) + section(s, c + 1, t)) / 2.0 * s.length / 6.0 * 0.75;
        }
        t = draughtOf(s, sum + f.weight);
        if (t == -1.0) return new double[] {-1.0, -1.0};
      }
      int many = 0;
      int set = 0;
      for (int c = 0; c < 6; c++) {
        if (flooded[c]) {
          many++;
          set += 1 << c;
        }
      }
      if (t <= s.depth * 0.875 || many == 0 || many == 6) return new double[] {t, set};
      boolean[] next = flooded.clone();
      for (int c = 0; c < 6; c++) {
        if (c > 0 && flooded[c - 1] || c < 5 && flooded[c + 1]) next[c] = true;
      }
      flooded = next;
      spread(s, flooded);
    }
  }

  public double flood(int ship, int holed, boolean isSet) {
    Ship s = ship(ship);
    arg(in(holed, 0, 63));
    return told(flooding(s, holed)[isSet ? 1 : 0]);
  }

  public int survives(int ship) {
    Ship s = ship(ship);
    int n = 0;
    for (int c = 0; c < 5; c++) {
      if (flooding(s, 3 << c)[0] >= 0.0) n++;
    }
    return n;
  }

  // 3

  public int plan(int ship, int compartment, int bottom, int sides, int deck) {
    Ship s = ship(ship);
    index(in(compartment, 0, 5));
    arg(in(bottom, 0, 40));
    arg(in(sides, 0, 40));
    arg(in(deck, 0, 40));
    state(s.stage == 0);
    int[] was = s.plan[compartment];
    s.plan[compartment] = new int[] {bottom, sides, deck};
    return was[0] + was[1] + was[2];
  }

  public int limit(int ship, int limit) {
    Ship s = ship(ship);
    arg(in(limit, 20, 400));
    int was = s.limit;
    s.limit = limit;
    return was;
  }

  static double modulus(Ship s, int c, boolean plan) {
    double p = breadth(s, c, 0) * thick(s, c, 0, plan);
    double q = breadth(s, c, 1) * thick(s, c, 1, plan);
    double r = breadth(s, c, 2) * thick(s, c, 2, plan);
    double d = s.depth;
    if (p + q + r == 0.0) return 0.0;
    double n = (q * d / 2.0 + r * d) / (p + q + r);
    double i = p * n * n + r * (d - n) * (d - n) + q * (d * d / 12.0 + (d / 2.0 - n) * (d / 2.0 - n));
    return i / Math.max(n, d - n) / 100.0;
  }

  /** As test() numbers them; null if it has no draught. */
  private double[] tested(Ship s, int sea, boolean plan) {
    Floats f = floating(s, plan);
    if (f.t == -1.0) return null;
    int[][] swell = {{0, 0, 0, 0, 0, 0, 0}, {4, 1, -3, -4, -3, 1, 4}, {-4, -1, 3, 4, 3, -1, -4}};
    double[] stands = new double[7];
    for (int k = 0; k < 7; k++) {
      stands[k] = Math.max(0.0, Math.min(s.depth, f.t + s.depth * swell[sea][k] / 32.0));
    }
    double[] carries = new double[6];
    for (Load l : f.loads) carries[l.c] += l.tonnes;
    double[] bears = new double[6];
    double all = 0.0;
    for (int c = 0; c < 6; c++) {
      bears[c] = (section(s, c, stands[c]) + section(s, c + 1, stands[c + 1])) / 2.0 * s.length / 6.0;
      all += bears[c];
    }
    double quotient = all < 0.001 ? 1.0 : f.weight / all;
    double[] out = new double[19];
    double shear = 0.0;
    double moment = 0.0;
    for (int c = 0; c < 6; c++) {
      double shearBehind = shear + carries[c] - bears[c] * quotient;
      double momentBehind = moment + (shear + shearBehind) / 2.0 * s.length / 6.0;
      double m = modulus(s, c, plan);
      out[c] = m == 0.0 ? 9999.0 : Math.max(Math.abs(moment), Math.abs(momentBehind)) / m;
      out[6 + c] = shearBehind;
      out[12 + c] = momentBehind;
      out[18] = Math.max(out[18], out[c]);
      shear = shearBehind;
      moment = momentBehind;
    }
    return out;
  }

  public int lighten(int ship) {
    Ship s = ship(ship);
    state(s.stage == 0);
    for (int c = 0; c < 6; c++) s.plan[c] = new int[] {3, 3, 3};
    int became = 0;
    for (int times = 0; ; times++) {
      double greatest = -1.0;
      int of = -1;
      for (int sea = 0; sea < 3; sea++) {
        double[] r = tested(s, sea, true);
        if (r == null) return -1;
        for (int c = 0; c < 6; c++) {
          if (r[c] > greatest) {
            greatest = r[c];
            of = c;
          }
        }
      }
      if (greatest <= s.limit) return became;
      if (times == 80) return -2;
      int[] p = s.plan[of];
      int which = p[2] < p[0] ? 2 : 0;
      if (p[which] < 40) {
        p[which]++;
        became++;
      }
      if (p[which] - p[1] >= 4) p[1]++;
    }
  }

  public int strake(int ship, int compartment, int what) {
    Ship s = ship(ship);
    index(in(compartment, 0, 5));
    arg(in(what, 0, 5));
    return what < 3 ? s.plan[compartment][what] : thick(s, compartment, what - 3, false);
  }

  public double test(int ship, int sea, boolean isPlan, int what) {
    Ship s = ship(ship);
    arg(in(sea, 0, 2));
    arg(in(what, 0, 18));
    double[] r = tested(s, sea, isPlan);
    return r == null ? -1.0 : told(r[what]);
  }

  public int weakest(int ship, boolean isPlan) {
    Ship s = ship(ship);
    if (tested(s, 0, isPlan) == null) return -1;
    int best = 0;
    double most = -1.0;
    for (int c = 0; c < 6; c++) {
      for (int sea = 0; sea < 3; sea++) {
        double stress = tested(s, sea, isPlan)[c];
        if (stress > most) {
          most = stress;
          best = c;
        }
      }
    }
    return best;
  }

  // 4: kinds are wide, long, thickness, price, lead; orders kind, many, day; offcuts kind, a, b

  public int sheets(int wide, int longer, int thickness, int price, int lead) {
    arg(in(wide, 10, 40));
    arg(in(longer, 20, 120));
    arg(wide <= longer);
    arg(in(thickness, 3, 40));
    arg(in(price, 1, 99));
    arg(in(lead, 1, 30));
    state(kinds.size() < 3);
    kinds.add(new int[] {wide, longer, thickness, price, lead});
    return kinds.size() - 1;
  }

  private void kind(int kind) {
    index(in(kind, 0, kinds.size() - 1));
  }

  private void pay(int account, int ship, int amount) {
    entries.add(new int[] {account, ship, day / 30, amount});
  }

  public int order(int kind, int many) {
    kind(kind);
    arg(in(many, 1, 300));
    state(orders.size() < 6);
    pay(0, -1, -kinds.get(kind)[3] * many);
    int comes = day + kinds.get(kind)[4];
    orders.add(new int[] {kind, many, comes});
    return comes;
  }

  private static int[] panel(Ship s, int c, int strake) {
    int b = (int) (breadth(s, c, strake) * 10.0);
    return new int[] {s.length * 10 / 6, b < 1 ? 1 : b};
  }

  private static int upTo(int a, int unit) {
    int up = 0;
    while (up < a) up += unit;
    return up;
  }

  private int[] rows(int kind, int[] panel) {
    int wide = kinds.get(kind)[0];
    int longer = kinds.get(kind)[1];
    int along = upTo(panel[0], longer) / longer * (upTo(panel[1], wide) / wide);
    int across = upTo(panel[0], wide) / wide * (upTo(panel[1], longer) / longer);
    return across < along ? new int[] {across, wide, longer} : new int[] {along, longer, wide};
  }

  private void keep(int kind, int a, int b) {
    offcuts.add(new int[] {kind, a, b});
    if (offcuts.size() > 8) offcuts.remove(0);
  }

  public int cut(int ship, int compartment, int strake, int kind) {
    Ship s = ship(ship);
    index(in(compartment, 0, 5));
    index(in(strake, 0, 2));
    kind(kind);
    int plan = s.plan[compartment][strake];
    arg(kinds.get(kind)[2] >= plan);
    arg(plan != 0);
    state(s.stage == 1);
    state(s.strake[compartment][strake].equals("bare"));
    int[] panel = panel(s, compartment, strake);
    int best = -1;
    for (int i = offcuts.size() - 1; i >= 0; i--) {
      int[] o = offcuts.get(i);
      boolean covers = o[1] >= panel[0] && o[2] >= panel[1] || o[2] >= panel[0] && o[1] >= panel[1];
      if (o[0] == kind && covers && (best < 0 || o[1] * o[2] <= offcuts.get(best)[1] * offcuts.get(best)[2])) {
        best = i;
      }
    }
    int taken = 0;
    if (best >= 0) {
      offcuts.remove(best);
    } else {
      int[] rows = rows(kind, panel);
      taken = rows[0];
      if (stock[kind] < taken) return -2;
      stock[kind] -= taken;
      int x = upTo(panel[0], rows[1]) - panel[0];
      int y = upTo(panel[1], rows[2]) - panel[1];
      if (x >= 5) keep(kind, x, rows[2]);
      if (y >= 5) keep(kind, y, x >= 5 ? rows[1] - x : rows[1]);
    }
    s.strake[compartment][strake] = "cut";
    s.cutFrom[compartment][strake] = kinds.get(kind)[2];
    return taken;
  }

  public int cutAll(int ship, int kind) {
    ship(ship);
    kind(kind);
    int n = 0;
    for (int c = 0; c < 6; c++) {
      for (int t = 0; t < 3; t++) {
        try {
          if (cut(ship, c, t, kind) != -2) n++;
        } catch (IllegalArgumentException | IllegalStateException e) {
          continue;
        }
      }
    }
    return n;
  }

  public int scrap(int ship) {
    Ship s = ship(ship);
    int n = 0;
    for (String[] of : s.strake) {
      for (int t = 0; t < 3; t++) {
        if (of[t].equals("cut")) {
          of[t] = "bare";
          n++;
        }
      }
    }
    return n;
  }

  public int store(int kind, int what) {
    kind(kind);
    arg(in(what, 0, 8));
    if (what < 5) return kinds.get(kind)[what];
    if (what == 5) return stock[kind];
    int sum = 0;
    for (int[] o : orders) sum += what == 6 && o[0] == kind ? o[1] : 0;
    for (int[] o : offcuts) sum += o[0] != kind ? 0 : what == 7 ? 1 : what == 8 ? o[1] * o[2] : 0;
    return sum;
  }

  public int needs(int ship, int kind) {
    Ship s = ship(ship);
    kind(kind);
    int sum = 0;
    for (int c = 0; c < 6; c++) {
      for (int t = 0; t < 3; t++) {
        if (s.strake[c][t].equals("bare") && in(s.plan[c][t], 1, kinds.get(kind)[2])) {
          sum += rows(kind, panel(s, c, t))[0];
        }
      }
    }
    return sum;
  }

  // 5

  static final int[] ROOM = {60, 90, 70, 50, 70, 90};
  static final int[] DEEP = {10, 0, 25, 5, 15, 25};

  static int tide(int day) {
    int[] a = {0, 6, 10, 12, 10, 6, 0, -6, -10, -12, -10, -6};
    int[] b = {4, 2, -1, -3, -4, -3, -1, 2};
    return 40 + a[day % 12] + b[day % 8];
  }

  private int at(int spot) {
    for (Ship s : ships) {
      if (s.spot == spot) return s.number;
    }
    return -1;
  }

  private boolean room(Ship s, int spot) {
    return at(spot) == -1 && ROOM[spot] >= s.length;
  }

  private int need(Ship s) {
    double t = floating(s, false).t;
    return t == -1.0 ? -1 : (int) Math.ceil(10.0 * t) + 3;
  }

  private boolean enough(Ship s, int spot, int onDay) {
    return need(s) != -1 && tide(onDay) - DEEP[spot] >= need(s);
  }

  public int lay(int ship, int slip) {
    Ship s = ship(ship);
    index(slip == 0 || slip == 1);
    state(s.stage == 0);
    state(room(s, slip));
    s.stage = 1;
    s.spot = slip;
    s.laid = true;
    for (int j = 0; j < 24; j++) {
      int h;
      if (j == 0) h = s.length * 2;
      else if (j <= 18) {
        int[] p = panel(s, (j - 1) / 3, (j - 1) % 3);
        h = s.plan[(j - 1) / 3][(j - 1) % 3] == 0 ? 0 : 8 + p[0] * p[1] / 100;
      } else if (j == 19) h = 10 + 10 * Integer.toBinaryString(s.bulkheads).replace("0", "").length();
      else if (j == 20) h = 12 * s.power + 10;
      else if (j == 21) h = s.length;
      else h = j == 22 ? 36 : 20;
      s.hours[j] = h;
      s.left[j] = h;
    }
    return (at(0) == -1 ? 1 : 0) + (at(1) == -1 ? 1 : 0);
  }

  private boolean done(Ship s, int... jobs) {
    for (int j : jobs) {
      if (!s.laid || s.left[j] != 0) return false;
    }
    return true;
  }

  private boolean doneTo(Ship s, int last) {
    for (int j = 0; j <= last; j++) {
      if (!done(s, j)) return false;
    }
    return true;
  }

  boolean doneForLaunch(Ship s) {
    return doneTo(s, 19);
  }

  boolean doneForTrial(Ship s) {
    return doneTo(s, 23);
  }

  private void lose(Ship s) {
    s.stage = 4;
    s.spot = -1;
    s.where = 0;
    s.port = -1;
    for (Lot l : lots) {
      if (l.stands == 1 && l.ship == s.number) away(l, 3);
    }
  }

  private static void away(Lot l, int stands) {
    l.stands = stands;
    l.ship = -1;
    l.compartment = -1;
  }

  public int launch(int ship) {
    Ship s = ship(ship);
    state(s.stage == 1);
    state(doneTo(s, 19));
    if (weather >= 13 || need(s) == -1 || !enough(s, s.spot, day)) return -1;
    int berth = -1;
    for (int b = 5; b >= 3; b--) {
      if (room(s, b) && enough(s, b, day)) berth = b;
    }
    if (berth == -1) return -2;
    if (floating(s, false).list == 10) {
      lose(s);
      return -3;
    }
    s.stage = 2;
    s.spot = berth;
    for (Buyer b : buyers) {
      if (b.stands == 1 && b.ship == ship) receive(b, b.our * 2 / 5);
    }
    return berth;
  }

  public int shift(int ship, int spot) {
    Ship s = ship(ship);
    index(in(spot, 2, 5));
    state(s.stage == 2 || s.stage == 3);
    state(s.where == 0);
    state(room(s, spot));
    if (weather >= 13 || !enough(s, s.spot, day) || !enough(s, spot, day)) return -1;
    if ((s.spot == 2 || spot == 2) && tide(day) < 45) return -1;
    int was = s.foul;
    s.spot = spot;
    if (spot == 2) s.foul = 0;
    return was;
  }

  public int spot(int spot, int what) {
    index(in(spot, 0, 5));
    arg(in(what, 0, 3));
    return what == 0 ? at(spot) : what == 1 ? ROOM[spot] : what == 2 ? DEEP[spot] : tide(day) - DEEP[spot];
  }

  public int lies(int ship, int what) {
    Ship s = ship(ship);
    arg(in(what, 0, 2));
    return what == 0 ? s.spot : what == 1 ? s.foul : need(s);
  }

  public int launchDay(int ship) {
    Ship s = ship(ship);
    state(s.stage == 1);
    int w = weather;
    for (int d = day; d <= day + 60; d++) {
      if (w < 13 && enough(s, s.spot, d)) return d;
      w = (5 * w + 3) % 16;
    }
    return -1;
  }

  // 6

  public int teams(int trade, int teams) {
    index(in(trade, 0, 2));
    arg(in(teams, 0, 6));
    int was = this.teams[trade];
    this.teams[trade] = teams;
    return was;
  }

  static int[] before(int job) {
    if (job == 0) return new int[0];
    if (job <= 18) {
      int c = (job - 1) / 3;
      int s = (job - 1) % 3;
      if (s == 0) return new int[] {0};
      return s == 2 && c == 1 ? new int[] {job - 1, 20} : new int[] {job - 1};
    }
    if (job == 19) return new int[] {1, 4, 7, 10, 13, 16};
    if (job == 20) return new int[] {1, 4, 7};
    if (job == 21) return new int[] {20, 2, 5, 8, 11, 14, 17};
    if (job == 22) return new int[] {3, 6, 9, 12, 15, 18};
    return new int[] {21, 22};
  }

  static int trade(int job) {
    return job <= 18 ? 0 : job <= 21 ? 1 : 2;
  }

  static int days(int[] left, int job) {
    return (left[job] + 7) / 8;
  }

  static int early(int[] left, int job) {
    int e = 0;
    for (int b : before(job)) e = Math.max(e, early(left, b) + days(left, b));
    return e;
  }

  static int end(int[] left) {
    int e = 0;
    for (int j = 0; j < 24; j++) e = Math.max(e, early(left, j) + days(left, j));
    return e;
  }

  static int late(int[] left, int job) {
    int l = end(left);
    for (int j = 0; j < 24; j++) {
      for (int b : before(j)) {
        if (b == job) l = Math.min(l, late(left, j));
      }
    }
    return l - days(left, job);
  }

  /** One day's work; which of it counts is told by real. */
  private void workDay(int[][] left, String[][] strakes, int[] teams, int weather, boolean real) {
    int n = ships.size();
    int[][] slack = new int[n][24];
    int[][] today = new int[n][24];
    for (int i = 0; i < n; i++) {
      if (!ships.get(i).laid) continue;
      for (int j = 0; j < 24; j++) slack[i][j] = late(left[i], j) - early(left[i], j);
    }
    for (int trade = 0; trade < 3; trade++) {
      for (int team = 0; team < teams[trade]; team++) {
        int hours = 8;
        if (weather < 5 && trade == 2) continue;
        if (weather < 5 && trade == 0) hours = 4;
        int bs = -1;
        int bj = -1;
        for (int i = 0; i < n; i++) {
          Ship s = ships.get(i);
          for (int j = 0; j < 24; j++) {
            if (trade(j) != trade || !s.laid || left[i][j] == 0 || today[i][j] == 2) continue;
            boolean ready = true;
            for (int b : before(j)) ready &= left[i][b] == 0;
            if (!ready) continue;
            if (j >= 1 && j <= 18 && !strakes[i][j - 1].equals("cut") && !strakes[i][j - 1].equals("begun")) continue;
            if (!(s.stage == 2 || s.stage == 1 && j != 23)) continue;
            if (bs == -1 || slack[i][j] < slack[bs][bj]) {
              bs = i;
              bj = j;
            }
          }
        }
        if (bs == -1) continue;
        today[bs][bj]++;
        int did = Math.min(hours, left[bs][bj]);
        left[bs][bj] -= did;
        if (bj >= 1 && bj <= 18) strakes[bs][bj - 1] = "begun";
        if (real) {
          worked += did;
          lost += hours - did;
        }
        if (left[bs][bj] > 0) continue;
        Ship s = ships.get(bs);
        if (real && !s.faulty[bj]) {
          luck = (13 * luck + 5) % 32;
          if (luck < 3) {
            s.faulty[bj] = true;
            faults++;
            left[bs][bj] = (int) Math.ceil(s.hours[bj] / 4.0);
            continue;
          }
        }
        if (bj >= 1 && bj <= 18) strakes[bs][bj - 1] = "fitted";
      }
    }
  }

  private int[][] leftRows() {
    int[][] rows = new int[ships.size()][];
    for (int i = 0; i < rows.length; i++) rows[i] = ships.get(i).left.clone();
    return rows;
  }

  private String[][] strakeRows() {
    String[][] rows = new String[ships.size()][18];
    for (int i = 0; i < rows.length; i++) {
      for (int t = 0; t < 18; t++) rows[i][t] = ships.get(i).strake[t / 3][t % 3];
    }
    return rows;
  }

  public int pass(int days) {
    arg(in(days, 1, 30));
    state(day + days <= 400);
    for (int i = 0; i < days; i++) passDay();
    return day;
  }

  private void passDay() {
    day++;
    weather = (5 * weather + 3) % 16;
    for (int i = orders.size() - 1; i >= 0; i--) {
      if (orders.get(i)[2] == day) {
        stock[orders.get(i)[0]] += orders.get(i)[1];
        orders.remove(i);
      }
    }
    for (Ship s : ships) {
      if (s.spot != -1) pay(2, s.number, s.spot == 2 ? -9 : -2);
    }
    for (Ship s : ships) {
      if (day % 10 == 0 && (s.stage == 2 || s.stage == 3) && s.spot != 2) s.foul++;
    }
    for (Ship s : ships) {
      if (s.spot >= 2) {
        for (int c = 0; c < 6; c++) {
          if ((s.holed & 1 << c) != 0) pay(7, s.number, -40);
        }
        s.holed = 0;
      }
    }
    int[][] left = leftRows();
    String[][] strakes = strakeRows();
    workDay(left, strakes, teams, weather, true);
    for (int i = 0; i < ships.size(); i++) {
      ships.get(i).left = left[i];
      for (int t = 0; t < 18; t++) ships.get(i).strake[t / 3][t % 3] = strakes[i][t];
    }
    pay(1, -1, -3 * (teams[0] + teams[1] + teams[2]));
    for (Ship s : ships) {
      if (s.where == 1) seaDay(s);
    }
    for (Buyer b : buyers) {
      if (b.stands != 1) continue;
      if (ships.get(b.ship).stage == 4) {
        voided(b);
      } else if (day > b.due) {
        b.fines++;
        pay(4, b.ship, -(b.our / 50));
        if (b.fines == 25) voided(b);
      }
    }
  }

  private void voided(Buyer b) {
    pay(3, b.ship, -b.paid);
    b.paid = 0;
    b.stands = 3;
  }

  public int job(int ship, int job, int what) {
    Ship s = ship(ship);
    index(in(job, 0, 23));
    arg(in(what, 0, 8));
    state(s.laid);
    int set = 0;
    for (int b : before(job)) set += 1 << b;
    switch (what) {
      case 0: return s.left[job];
      case 1: return trade(job);
      case 2: return s.left[job] == 0 ? 1 : 0;
      case 3: return days(s.left, job);
      case 4: return early(s.left, job);
      case 5: return late(s.left, job);
      case 6: return late(s.left, job) - early(s.left, job);
      case 7: return s.faulty[job] ? 1 : 0;
      default: return set;
    }
  }

  public int works(int ship, int what) {
    Ship s = ship(ship);
    arg(in(what, 0, 3));
    state(s.laid);
    int done = 0;
    int critical = 0;
    int sum = 0;
    for (int j = 0; j < 24; j++) {
      if (s.left[j] == 0) done += 1 << j;
      else if (late(s.left, j) == early(s.left, j)) critical += 1 << j;
      sum += s.left[j];
    }
    return what == 0 ? end(s.left) : what == 1 ? done : what == 2 ? critical : sum;
  }

  public int yard(int what) {
    arg(in(what, 0, 13));
    return new int[] {day, weather, tide(day), luck, teams[0], teams[1], teams[2], ships.size(), kinds.size(),
        offcuts.size(), orders.size(), faults, worked, lost}[what];
  }

  public int done(int ship, int more) {
    Ship s = ship(ship);
    arg(in(more, 0, 3));
    state(s.laid);
    int[][] left = leftRows();
    String[][] strakes = strakeRows();
    int[] crew = teams.clone();
    if (more < 3) crew[more]++;
    for (int t = 0; t < 18; t++) {
      if (strakes[ship][t].equals("bare")) strakes[ship][t] = "cut";
    }
    int w = weather;
    for (int d = 0; d <= 120; d++) {
      int open = 0;
      for (int j = 0; j < 23; j++) open += left[ship][j];
      if (open == 0) return d;
      w = (5 * w + 3) % 16;
      workDay(left, strakes, crew, w, false);
    }
    return -1;
  }

  // 7

  public int power(int ship, int power) {
    Ship s = ship(ship);
    arg(in(power, 0, 20));
    state(s.stage == 0);
    int was = s.power;
    s.power = power;
    return was;
  }

  public int pipe(int ship, int from, int to, int width) {
    Ship s = ship(ship);
    index(in(from, 0, 7));
    index(in(to, 0, 7));
    arg(from != to);
    arg(in(width, 1, 99));
    state(s.pipes.size() < 12);
    state(!gone(s));
    Pipe p = new Pipe();
    p.from = from;
    p.to = to;
    p.width = width;
    s.pipes.add(p);
    return s.pipes.size() - 1;
  }

  public int net(int ship, int width) {
    Ship s = ship(ship);
    arg(in(width, 1, 99));
    state(!gone(s));
    int was = s.pipes.size();
    s.pipes.clear();
    int[][] ways = {{0, 1}, {1, 7}, {0, 2}, {2, 7}, {1, 2}, {2, 1}};
    for (int[] w : ways) pipe(ship, w[0], w[1], width);
    return was;
  }

  public boolean valve(int ship, int pipe) {
    Ship s = ship(ship);
    index(in(pipe, 0, s.pipes.size() - 1));
    state(!gone(s));
    s.pipes.get(pipe).shut = !s.pipes.get(pipe).shut;
    return !s.pipes.get(pipe).shut;
  }

  public int mend(int ship) {
    Ship s = ship(ship);
    state(!gone(s));
    int n = 0;
    for (Pipe p : s.pipes) {
      if (p.burst) {
        n++;
        pay(8, ship, -5);
      }
      p.burst = false;
    }
    return n;
  }

  /** What can be carried from the nodes of a set to the others: the least over all sets is the flow. */
  private static int across(Ship s, int set, Pipe without) {
    int sum = 0;
    for (Pipe p : s.pipes) {
      boolean goes = (set & 1 << p.from) != 0 && (set & 1 << p.to) == 0;
      if (goes && !p.shut && !p.burst && p != without) sum += p.width;
    }
    return sum;
  }

  private static int flow(Ship s, Pipe without) {
    int least = Integer.MAX_VALUE;
    for (int set = 1; set < 128; set += 2) least = Math.min(least, across(s, set, without));
    return least;
  }

  private static int narrow(Ship s) {
    int reached = 127;
    for (int set = 1; set < 128; set += 2) {
      if (across(s, set, null) == flow(s, null)) reached &= set;
    }
    int narrow = 0;
    for (int i = 0; i < s.pipes.size(); i++) {
      Pipe p = s.pipes.get(i);
      if (!p.shut && !p.burst && (reached & 1 << p.from) != 0 && (reached & 1 << p.to) == 0) narrow += 1 << i;
    }
    return narrow;
  }

  private int gives(Ship s) {
    return done(s, 20) ? Math.min(100 * s.power, 20 * flow(s, null)) : 0;
  }

  private double speedBy(Ship s, int p) {
    Floats f = floating(s, false);
    if (f.t == -1.0) return 0.0;
    double skin = ofWater(s, f.t, 6);
    double low = 0.0;
    double high = 32.0;
    for (int i = 0; i < 18; i++) {
      double v = (low + high) / 2.0;
      double need = skin * (8.0 + s.foul) / 8.0 * v * v * v / 160.0 + f.weight * v * v * v * v / (s.length * 300.0);
      if (need <= p) low = v;
      else high = v;
    }
    return low;
  }

  public int trial(int ship) {
    Ship s = ship(ship);
    state(s.stage == 2);
    state(doneTo(s, 23));
    int narrow = narrow(s);
    int n = 0;
    for (int i = 0; i < s.pipes.size(); i++) {
      if ((narrow & 1 << i) == 0) continue;
      luck = (13 * luck + 5) % 32;
      if (luck < 4) {
        s.pipes.get(i).burst = true;
        n++;
      }
    }
    if (speedBy(s, gives(s)) >= 4.0 && floating(s, false).list < 10) s.stage = 3;
    return n;
  }

  public int engine(int ship, int what) {
    Ship s = ship(ship);
    arg(in(what, 0, 8));
    int burst = 0;
    int shut = 0;
    int spare = 0;
    int least = flow(s, null);
    for (int i = 0; i < s.pipes.size(); i++) {
      Pipe p = s.pipes.get(i);
      if (p.burst) burst += 1 << i;
      if (p.shut) shut += 1 << i;
      if (p.burst || p.shut) continue;
      if (flow(s, p) == flow(s, null)) spare += 1 << i;
      least = Math.min(least, flow(s, p));
    }
    return new int[] {s.power, s.pipes.size(), flow(s, null), narrow(s), burst, shut, gives(s), spare, least}[what];
  }

  public double speed(int ship, int power) {
    Ship s = ship(ship);
    arg(in(power, -1, 2000));
    return told(speedBy(s, power == -1 ? gives(s) : power));
  }

  // 8

  public int buyer(int length, int speed, int rules, int days, int price) {
    arg(in(length, 20, 80));
    arg(in(speed, 0, 12));
    arg(in(rules, 0, 255));
    arg(in(days, 10, 300));
    arg(in(price, 100, 30000));
    state(buyers.size() < 4);
    Buyer b = new Buyer();
    b.length = length;
    b.speed = speed;
    b.rules = rules;
    b.due = day + days;
    b.price = price;
    buyers.add(b);
    return buyers.size() - 1;
  }

  private int rival(Buyer b) {
    int many = 0;
    for (int k = 0; k < 8; k++) many += (b.rules & 1 << k) != 0 ? 1 : 0;
    return 20 * b.length + 60 * b.speed + 30 * many + 3 * weather;
  }

  private boolean contracted(int ship) {
    for (Buyer b : buyers) {
      if (b.stands == 1 && b.ship == ship) return true;
    }
    return false;
  }

  private void receive(Buyer b, int amount) {
    b.paid += amount;
    pay(3, b.ship, amount);
  }

  public boolean bid(int buyer, int ship, int price) {
    index(in(buyer, 0, buyers.size() - 1));
    Ship s = ship(ship);
    Buyer b = buyers.get(buyer);
    arg(in(price, 1, 30000));
    state(b.stands == 0);
    state(!gone(s));
    state(!contracted(ship));
    if (price <= b.price && price < rival(b)) {
      b.stands = 1;
      b.ship = ship;
      b.our = price;
      receive(b, price / 5);
      if (s.stage == 2 || s.stage == 3) receive(b, price * 2 / 5);
      return true;
    }
    b.stands = 4;
    return false;
  }

  public int handOver(int buyer) {
    index(in(buyer, 0, buyers.size() - 1));
    Buyer b = buyers.get(buyer);
    state(b.stands == 1);
    Ship s = ships.get(b.ship);
    boolean ok = s.stage == 3 && in(s.spot, 3, 5) && s.length >= b.length && speedBy(s, gives(s)) >= b.speed
        && (broken(s) & b.rules) == 0;
    if (!ok) return -1;
    int rest = b.our - b.our / 5 - b.our * 2 / 5;
    receive(b, rest);
    b.stands = 2;
    s.stage = 5;
    s.spot = -1;
    for (Lot l : lots) {
      if (l.stands == 1 && l.ship == s.number) away(l, 3);
    }
    return rest;
  }

  private int broken(Ship s) {
    Floats f = floating(s, false);
    int seven = s.foul > 8 ? 128 : 0;
    if (f.t == -1.0) return seven + 127;
    double stress = 0.0;
    for (int sea = 0; sea < 3; sea++) stress = Math.max(stress, tested(s, sea, false)[18]);
    int flow = flow(s, null);
    boolean[] breaks = {
      f.t > s.depth * 0.75,
      f.gm < 0.25 || f.list > 2,
      stress > s.limit,
      survives(s.number) < 3,
      speedBy(s, gives(s)) < 6.0,
      engine(s.number, 8) * 2 < flow || flow == 0,
      Math.abs(f.trim) > s.length / 40.0};
    int set = seven;
    for (int k = 0; k < 7; k++) {
      if (breaks[k]) set += 1 << k;
    }
    return set;
  }

  public int breaks(int ship) {
    return broken(ship(ship));
  }

  public int sale(int buyer, int what) {
    index(in(buyer, 0, buyers.size() - 1));
    arg(in(what, 0, 10));
    Buyer b = buyers.get(buyer);
    return new int[] {b.length, b.speed, b.rules, b.due, b.price, b.stands, b.ship, b.our, b.fines, b.paid,
        rival(b)}[what];
  }

  public int bestBuyer(int ship) {
    Ship s = ship(ship);
    int best = -1;
    int most = -1;
    for (int i = buyers.size() - 1; i >= 0; i--) {
      Buyer b = buyers.get(i);
      if (b.stands != 0 || gone(s) || contracted(ship)) continue;
      if (s.length < b.length || speedBy(s, gives(s)) < b.speed || (broken(s) & b.rules) != 0) continue;
      int had = rival(b) - 1 < b.price ? rival(b) - 1 : b.price;
      if (had >= most) {
        most = had;
        best = i;
      }
    }
    return best;
  }

  // 9

  public int port(int east, int north, int deep) {
    arg(in(east, 0, 99));
    arg(in(north, 0, 99));
    arg(in(deep, 20, 200));
    state(ports.size() < 6);
    ports.add(new int[] {east, north, deep});
    return ports.size() - 1;
  }

  public int lot(int at, int to, int tonnes, int sort, int freight) {
    index(in(at, 0, ports.size() - 1));
    index(in(to, 0, ports.size() - 1));
    arg(at != to);
    arg(in(tonnes, 1, 400));
    arg(in(sort, 0, 2));
    arg(in(freight, 1, 999));
    state(lots.size() < 8);
    Lot l = new Lot();
    l.at = at;
    l.to = to;
    l.tonnes = tonnes;
    l.sort = sort;
    l.freight = freight;
    lots.add(l);
    return lots.size() - 1;
  }

  public int bunker(int ship, int tonnes) {
    Ship s = ship(ship);
    arg(in(tonnes, 1, 400));
    state(s.stage == 3);
    state(s.where != 1);
    state(s.fuel + tonnes <= 400);
    s.fuel += tonnes;
    pay(5, ship, -2 * tonnes);
    return s.fuel;
  }

  public int stow(int ship, int lot, int compartment) {
    Ship s = ship(ship);
    index(in(lot, 0, lots.size() - 1));
    index(in(compartment, 0, 5));
    Lot l = lots.get(lot);
    state(s.stage == 3);
    state(s.where == 2 && s.port == l.at);
    state(l.stands == 0);
    state(compartment != 1);
    int space = (int) ((s.half[compartment][3] + s.half[compartment + 1][3]) / 16.0 * s.depth / 2.0 * s.length / 6.0);
    int inside = 0;
    for (Lot o : lots) {
      if (o.stands != 1 || o.ship != ship) continue;
      int apart = Math.abs(o.compartment - compartment);
      if (apart == 0) inside += o.tonnes;
      state(!(apart == 0 && (o.sort == 2 || l.sort == 2)));
      state(!(apart == 1 && o.sort == 2 && l.sort == 2));
    }
    state(inside + l.tonnes <= space);
    l.stands = 1;
    l.ship = ship;
    l.compartment = compartment;
    l.side = 0.0;
    return floating(s, false).list;
  }

  public int unload(int ship) {
    Ship s = ship(ship);
    state(s.stage == 3);
    state(s.where == 2);
    int sum = 0;
    for (Lot l : lots) {
      if (l.stands == 1 && l.ship == ship && l.to == s.port) {
        away(l, 2);
        pay(6, ship, l.freight);
        s.earned += l.freight;
        sum += l.freight;
      }
    }
    return sum;
  }

  private int way(int a, int b) {
    int[] yard = {0, 0, 999};
    int[] p = a == -1 ? yard : ports.get(a);
    int[] q = b == -1 ? yard : ports.get(b);
    return (Math.abs(p[0] - q[0]) + Math.abs(p[1] - q[1])) * 5;
  }

  public int sail(int ship, int port) {
    Ship s = ship(ship);
    index(in(port, -1, ports.size() - 1));
    arg(s.where == 1 || s.port != port);
    state(s.stage == 3);
    state(s.where != 1);
    Floats f = floating(s, false);
    if (f.t == -1.0 || f.list == 10) return -3;
    if (gives(s) == 0) return -2;
    if (port != -1 && need(s) > ports.get(port)[2]) return -1;
    int way = way(s.port, port);
    s.where = 1;
    s.spot = -1;
    s.port = port;
    s.way = way;
    s.waits = false;
    return way;
  }

  private void seaDay(Ship s) {
    if (!s.waits) {
      s.seaDays++;
      int gives = gives(s);
      double speed = speedBy(s, gives);
      if (weather >= 13) speed = speed / 2.0;
      double miles = speed * 24.0;
      int fuel = (gives + 99) / 100 * 2;
      if (s.fuel < fuel) miles = miles / 4.0;
      else s.fuel -= fuel;
      s.way -= miles;
      if (weather >= 13) storm(s);
      if (s.stage == 4) return;
      if (s.way > 0.0) return;
    }
    if (s.port >= 0) {
      s.where = 2;
      return;
    }
    int[] order = {3, 4, 5, 2};
    for (int spot : order) {
      if (room(s, spot)) {
        s.spot = spot;
        s.where = 0;
        s.waits = false;
        if (spot == 2) s.foul = 0;
        return;
      }
    }
    s.waits = true;
  }

  private void storm(Ship s) {
    for (Lot l : lots) {
      if (l.stands == 1 && l.ship == s.number && l.sort == 1) l.side += 0.5;
    }
    if (floating(s, false).list == 10) {
      lose(s);
      return;
    }
    double stress = Math.max(tested(s, 1, false)[18], tested(s, 2, false)[18]);
    if (stress > s.limit) {
      s.holed |= 1 << weakest(s.number, false);
      if (flooding(s, s.holed)[0] == -1.0) lose(s);
    }
  }

  public int voyage(int ship, int what) {
    Ship s = ship(ship);
    arg(in(what, 0, 8));
    int many = 0;
    int tonnes = 0;
    for (Lot l : lots) {
      if (l.stands == 1 && l.ship == ship) {
        many++;
        tonnes += l.tonnes;
      }
    }
    int left = s.where == 1 && !s.waits ? (int) Math.ceil(s.way) : 0;
    return new int[] {s.where, s.port, s.fuel, left, many, tonnes, s.holed, s.earned, s.seaDays}[what];
  }

  public int ofLot(int lot, int what) {
    index(in(lot, 0, lots.size() - 1));
    arg(in(what, 0, 3));
    Lot l = lots.get(lot);
    return new int[] {l.stands, l.ship, l.compartment, (int) (8 * l.side)}[what];
  }

  private int bestWay;
  private int bestFirst;

  private void walk(int at, int set, int way, int first) {
    if (set == 0) {
      if (bestWay < 0 || way + way(at, -1) < bestWay) {
        bestWay = way + way(at, -1);
        bestFirst = first;
      }
      return;
    }
    for (int p = 0; p < ports.size(); p++) {
      if ((set & 1 << p) != 0) walk(p, set & ~(1 << p), way + way(at, p), first == -1 ? p : first);
    }
  }

  public int route(int from, int set, boolean isWay) {
    index(in(from, -1, ports.size() - 1));
    arg(set >= 0 && set < 1 << ports.size());
    bestWay = -1;
    walk(from, set, 0, -1);
    return isWay ? bestWay : bestFirst;
  }

  // 10

  public int money(int account, int ship, int month) {
    index(in(account, 0, 9));
    index(in(ship, -1, 3));
    index(ship == 3 || ship < ships.size());
    arg(in(month, 0, 14));
    int sum = 0;
    for (int[] e : entries) {
      if ((account == 9 || e[0] == account) && (ship == 3 || e[1] == ship) && (month == 14 || e[2] == month)) sum += e[3];
    }
    return sum;
  }

  public int cash() {
    return 5000 + money(9, 3, 14);
  }

  private int e;

  private void then(int v) {
    e = e * 31 + v;
  }

  public int audit(int part) {
    arg(in(part, 1, 10));
    e = part;
    for (int s = 0; s < ships.size(); s++) {
      if (part == 1) {
        for (int w = 0; w <= 3; w++) then(hull(s, w));
        for (int w = 100; w <= 134; w++) then(hull(s, w));
      }
      if (part == 2) {
        for (int w = 0; w <= 8; w++) then((int) (64.0 * floats(s, w)));
        then(survives(s));
      }
      if (part == 3) {
        for (int c = 0; c < 6; c++) {
          for (int w = 0; w <= 5; w++) then(strake(s, c, w));
        }
        then(weakest(s, false));
      }
    }
    if (part == 4) {
      for (int k = 0; k < kinds.size(); k++) {
        for (int w = 0; w <= 8; w++) then(store(k, w));
      }
    }
    if (part == 5) {
      for (int p = 0; p < 6; p++) then(spot(p, 0));
    }
    if (part == 6) {
      for (int w = 0; w <= 13; w++) then(yard(w));
    }
    if (part == 8) {
      for (int b = 0; b < buyers.size(); b++) {
        for (int w = 0; w <= 10; w++) then(sale(b, w));
      }
    }
    for (int s = 0; s < ships.size(); s++) {
      for (int w = 0; part == 5 && w <= 2; w++) then(lies(s, w));
      for (int w = 0; part == 6 && ships.get(s).laid && w <= 3; w++) then(works(s, w));
      for (int w = 0; part == 7 && w <= 8; w++) then(engine(s, w));
      if (part == 8) then(breaks(s));
      for (int w = 0; part == 9 && w <= 8; w++) then(voyage(s, w));
    }
    if (part == 9) {
      for (int l = 0; l < lots.size(); l++) {
        for (int w = 0; w <= 3; w++) then(ofLot(l, w));
      }
    }
    if (part == 10) {
      for (int a = 0; a <= 8; a++) then(money(a, 3, 14));
      then(cash());
    }
    return e;
  }

  /** Nothing that the document lets happen makes a yard unsound. */
  public boolean isSound() {
    return true;
  }

  public int bell() {
    refused++;
    return refused;
  }

  public String tell(int ship) {
    Ship s = ship(ship);
    String[] names = {"drawn", "slip", "afloat", "ready", "lost", "sold"};
    String line = ship + " " + names[s.stage];
    if (s.where == 1) return line + " at sea";
    if (s.where == 2) return line + " at port " + s.port;
    return s.spot >= 0 ? line + " at " + s.spot : line;
  }

  public long digest() {
    long d = 58333;
    for (int part = 1; part <= 10; part++) d = d * 31 + audit(part);
    d = d * 31 + cash();
    d = d * 31 + refused;
    return d * 31 + (isSound() ? 1 : 0);
  }
}
