import java.lang.reflect.InvocationTargetException;
import java.lang.reflect.Method;
import java.util.Arrays;
import java.util.Random;
import java.util.TreeMap;

/** Draws calls that a yard could make of itself (by a seed), and makes them of KeelHouse and of Model. */
final class RandomCalls {
  private final Random random;
  private final KeelHouse yard = new KeelHouse();
  final Model model = new Model();
  private final TreeMap<String, Method> face = new TreeMap<>();
  private final TreeMap<String, Method> modelFace = new TreeMap<>();
  final TreeMap<String, Integer> seen;
  final StringBuilder told = new StringBuilder();
  private String[] names;

  RandomCalls(long seed, TreeMap<String, Integer> seen) {
    random = new Random(seed);
    this.seen = seen;
    for (Method m : KeelHouse.class.getDeclaredMethods()) {
      if (java.lang.reflect.Modifier.isPublic(m.getModifiers())) face.put(m.getName(), m);
    }
    for (Method m : Model.class.getDeclaredMethods()) {
      if (java.lang.reflect.Modifier.isPublic(m.getModifiers())) modelFace.put(m.getName(), m);
    }
    names = face.keySet().toArray(new String[0]);
  }

  private static Object answer(Object of, Method m, Object[] args) {
    try {
      return m.invoke(of, args);
    } catch (InvocationTargetException e) {
      return "throws " + e.getCause().getClass().getName();
    } catch (IllegalAccessException e) {
      throw new AssertionError(e);
    }
  }

  /** Makes one call of both, and tells null or how they differ. */
  private String call(String name, Object... args) {
    Object a = answer(yard, face.get(name), args);
    Object b = answer(model, modelFace.get(name), args);
    String line = name + Arrays.toString(args) + " = " + a;
    told.append(line).append('\n');
    count(name, a);
    return a.equals(b) ? null : line + ", the model says " + b;
  }

  private void count(String name, Object answer) {
    String a = answer.toString();
    if (a.startsWith("throws") || a.equals("-1") || a.equals("-2") || a.equals("-3") || a.equals("true")
        || a.equals("false")) {
      seen.merge(name + " " + a, 1, Integer::sum);
    } else {
      seen.merge(name, 1, Integer::sum);
    }
  }

  private int r(int a, int b) {
    return a + random.nextInt(b - a + 1);
  }

  private int mostly(int a, int b) {
    return random.nextInt(40) == 0 ? (random.nextBoolean() ? a - 1 : b + 1) : r(a, b);
  }

  private int aShip() {
    return random.nextInt(60) == 0 ? r(-1, 3) : r(0, Math.max(0, model.ships.size() - 1));
  }

  /** null, or how the two differ. */
  String run(int calls, int digestEach) {
    for (int i = 1; i <= calls; i++) {
      String bad = i % digestEach == 0 ? call("digest") : random.nextInt(10) < 6 ? useful() : any();
      if (bad == null && random.nextInt(4) == 0) bad = asked();
      if (bad != null) return "call " + i + ": " + bad;
    }
    return call("digest");
  }

  /** Builds up to three ships to about READY first, so that what comes behind that is met often. */
  String runBuilt(int calls, int digestEach) {
    int ships = r(1, 3);
    String bad = null;
    for (int i = 0; i < ships && bad == null; i++) bad = drawGood(i);
    if (bad == null) bad = call("sheets", 20, 60, 20, 2, 1);
    for (int i = 0; i < 6 && bad == null; i++) bad = call("order", 0, 300);
    for (int i = 0; i < 3 && bad == null; i++) bad = call("teams", i, r(4, 6));
    for (int i = 0; i < 40 && bad == null; i++) bad = buildOn(i);
    if (bad == null && random.nextInt(3) > 0) bad = openPorts();
    return bad == null ? run(calls, digestEach) : "building: " + bad;
  }

  private String drawGood(int ship) {
    String bad = call("draw", r(0, 3) == 0 ? 2 : r(0, 1), r(20, 60), r(4, 7), r(28, 60));
    if (bad == null) bad = call("power", ship, r(6, 20));
    if (bad == null) bad = call("net", ship, r(20, 60));
    if (bad == null) bad = call("bulkheads", ship, r(0, 31));
    if (bad == null) bad = call("limit", ship, r(20, 400));
    for (int c = 0; c < 6 && bad == null; c++) bad = call("plan", ship, c, r(4, 14), r(0, 8), r(0, 12));
    if (bad == null && r(0, 2) == 0) bad = call("lighten", ship);
    if (bad == null && r(0, 2) > 0) bad = call("put", ship, r(10, 60), r(0, 5), 0, 0);
    return bad;
  }

  private String buildOn(int turn) {
    String bad = null;
    for (Model.Ship s : model.ships) {
      if (bad != null) return bad;
      if (s.stage == 0) bad = call("lay", s.number, turn % 2);
      else if (s.stage == 1 && !model.doneForLaunch(s)) bad = turn % 3 == 0 ? call("cutAll", s.number, 0) : null;
      else if (s.stage == 1) bad = call("launch", s.number);
      else if (s.stage == 2 && model.doneForTrial(s)) bad = call("trial", s.number);
    }
    return bad == null ? call("pass", r(1, 3)) : bad;
  }

  private String openPorts() {
    String bad = null;
    for (int i = r(2, 6); i > 0 && bad == null; i--) bad = call("port", r(0, 40), r(0, 40), r(30, 120));
    for (int i = r(2, 8); i > 0 && bad == null; i--) {
      bad = call("lot", r(0, 2), r(0, 2), r(1, 60), r(0, 2), r(1, 999));
    }
    return bad;
  }

  private String any() {
    String name = names[random.nextInt(names.length)];
    switch (name) {
      case "draw": return call(name, mostly(0, 2), mostly(20, 80), mostly(4, 12), mostly(16, 80));
      case "offset": return call(name, aShip(), mostly(0, 6), mostly(0, 4), mostly(0, 80));
      case "fair": case "lighten": case "survives": case "scrap": case "launch": case "launchDay": case "mend":
      case "trial": case "breaks": case "bestBuyer": case "unload": case "tell": return call(name, aShip());
      case "hull": return call(name, aShip(), random.nextBoolean() ? mostly(0, 3) : mostly(100, 134));
      case "water": return call(name, aShip(), mostly(0, 40), mostly(0, 6));
      case "draught": return call(name, aShip(), random.nextBoolean() ? r(0, 3000) : mostly(0, 99999));
      case "put": return call(name, aShip(), mostly(1, random.nextBoolean() ? 60 : 900), mostly(0, 5), mostly(-64, 64), mostly(0, 160));
      case "take": return call(name, aShip(), mostly(0, 2));
      case "fill": return call(name, aShip(), fills());
      case "bulkheads": return call(name, aShip(), mostly(0, 31));
      case "floats": case "engine": case "voyage": return call(name, aShip(), mostly(0, 8));
      case "flood": return call(name, aShip(), mostly(0, 63), random.nextBoolean());
      case "plan": return call(name, aShip(), mostly(0, 5), mostly(0, 40), mostly(0, 40), mostly(0, 40));
      case "limit": return call(name, aShip(), mostly(20, 400));
      case "strake": return call(name, aShip(), mostly(0, 5), mostly(0, 5));
      case "test": return call(name, aShip(), mostly(0, 2), random.nextBoolean(), mostly(0, 18));
      case "weakest": return call(name, aShip(), random.nextBoolean());
      case "sheets": return call(name, mostly(10, 40), mostly(20, 120), mostly(3, 40), mostly(1, 99), mostly(1, 30));
      case "order": return call(name, mostly(0, 2), mostly(1, 300));
      case "cut": return call(name, aShip(), mostly(0, 5), mostly(0, 2), mostly(0, 2));
      case "cutAll": case "needs": return call(name, aShip(), mostly(0, 2));
      case "store": return call(name, mostly(0, 2), mostly(0, 8));
      case "lay": return call(name, aShip(), mostly(0, 1));
      case "shift": return call(name, aShip(), mostly(2, 5));
      case "spot": return call(name, mostly(0, 5), mostly(0, 3));
      case "lies": return call(name, aShip(), mostly(0, 2));
      case "teams": return call(name, mostly(0, 2), mostly(0, 6));
      case "pass": return call(name, random.nextInt(20) == 0 ? mostly(1, 30) : r(1, 3));
      case "job": return call(name, aShip(), mostly(0, 23), mostly(0, 8));
      case "works": case "done": return call(name, aShip(), mostly(0, 3));
      case "yard": return call(name, mostly(0, 13));
      case "power": return call(name, aShip(), mostly(0, 20));
      case "pipe": return call(name, aShip(), mostly(0, 7), mostly(0, 7), mostly(1, 99));
      case "net": return call(name, aShip(), mostly(1, 99));
      case "valve": return call(name, aShip(), mostly(0, 7));
      case "speed": return call(name, aShip(), mostly(-1, 2000));
      case "buyer": return call(name, mostly(20, 50), mostly(0, 12), r(0, 3) == 0 ? mostly(0, 255) : 1 << r(0, 7), mostly(10, 300), mostly(100, random.nextBoolean() ? 3000 : 30000));
      case "bid": return call(name, mostly(0, 3), aShip(), random.nextInt(20) == 0 ? mostly(1, 30000) : r(1, 1500));
      case "handOver": return call(name, mostly(0, 3));
      case "sale": return call(name, mostly(0, 3), mostly(0, 10));
      case "port": return call(name, mostly(0, 99), mostly(0, 99), mostly(20, 200));
      case "lot": return call(name, mostly(0, 5), mostly(0, 5), mostly(1, random.nextBoolean() ? 40 : 400), mostly(0, 2), mostly(1, 999));
      case "bunker": return call(name, aShip(), mostly(1, 400));
      case "stow": return call(name, aShip(), mostly(0, 7), mostly(0, 5));
      case "sail": return call(name, aShip(), mostly(-1, 5));
      case "ofLot": return call(name, mostly(0, 7), mostly(0, 3));
      case "route": return call(name, mostly(-1, 5), mostly(0, 1 << model.ports.size()), random.nextBoolean());
      case "money": return call(name, mostly(0, 9), mostly(-1, 3), mostly(0, 14));
      case "audit": return call(name, mostly(1, 10));
      case "digest": return null;
      default: return call(name);
    }
  }

  private int fills() {
    if (random.nextInt(20) == 0) return mostly(0, 888888);
    int sum = 0;
    for (int c = 0; c < 6; c++) sum = sum * 10 + (random.nextBoolean() ? 0 : r(0, 8));
    return sum;
  }

  private String asked() {
    switch (r(0, 9)) {
      case 0: return call("voyage", aShip(), r(0, 8));
      case 1: return call("lies", aShip(), r(0, 2));
      case 2: return call("yard", r(0, 13));
      case 3: return call("tell", aShip());
      case 4: return call("cash");
      case 5: return call("isSound");
      case 6: return call("ofLot", r(0, 7), r(0, 3));
      case 7: return call("job", aShip(), r(0, 23), r(0, 8));
      case 8: return call("sale", r(0, 3), r(0, 10));
      default: return call("floats", aShip(), r(0, 8));
    }
  }

  /** A call that brings some ship a step further. */
  private String useful() {
    if (model.ships.isEmpty() || model.ships.size() < 3 && random.nextInt(30) == 0) {
      return call("draw", r(0, 2), r(20, 60), r(4, 8), r(24, 60));
    }
    Model.Ship s = model.ships.get(random.nextInt(model.ships.size()));
    if (random.nextInt(12) == 0) return sales(s);
    switch (s.stage) {
      case 0: return whileDrawn(s.number);
      case 1: return onSlip(s);
      case 2: return afloat(s);
      case 3: return ready(s);
      default: return call("pass", 1);
    }
  }

  private String sales(Model.Ship s) {
    switch (r(0, 3)) {
      case 0: return call("buyer", r(20, 40), r(0, 7), random.nextInt(3) == 0 ? r(0, 255) : 0, r(10, 300), r(400, 3000));
      case 1: return call("bid", buyerFor(s), s.number, r(300, 1200));
      case 2: return call("bestBuyer", s.number);
      default: return call("handOver", buyerFor(s));
    }
  }

  /** The one with whom a ship's contract goes on, or any. */
  private int buyerFor(Model.Ship s) {
    for (int i = 0; i < model.buyers.size(); i++) {
      if (model.buyers.get(i).stands == 1 && model.buyers.get(i).ship == s.number) return i;
    }
    return r(0, 3);
  }

  private String whileDrawn(int ship) {
    switch (r(0, 11)) {
      case 0: return call("power", ship, r(3, 20));
      case 1: return call("net", ship, r(20, 90));
      case 2: return call("bulkheads", ship, r(0, 31));
      case 3: return call("fair", ship);
      case 4: return call("lighten", ship);
      case 5: return call("plan", ship, r(0, 5), r(0, 12), r(0, 12), r(0, 12));
      case 6: return call("put", ship, r(1, 60), r(0, 5), r(-8, 8), r(0, 20));
      case 7: return call("fill", ship, fills());
      default: return model.ships.get(ship).power == 0 ? call("power", ship, r(3, 20))
          : model.ships.get(ship).pipes.isEmpty() ? call("net", ship, r(20, 90)) : call("lay", ship, r(0, 1));
    }
  }

  private String onSlip(Model.Ship s) {
    if (model.doneForLaunch(s)) return r(0, 2) > 0 ? call("launch", s.number) : call("pass", 1);
    switch (r(0, 9)) {
      case 0: return call("sheets", r(20, 40), r(60, 120), r(10, 40), r(1, 9), r(1, 5));
      case 1: case 2: return call("order", r(0, Math.max(0, model.kinds.size() - 1)), r(60, 300));
      case 3: case 4: return call("cutAll", s.number, r(0, Math.max(0, model.kinds.size() - 1)));
      case 5: return call("teams", r(0, 2), r(2, 6));
      case 6: return call("done", s.number, r(0, 3));
      default: return call("pass", r(1, 4));
    }
  }

  private String afloat(Model.Ship s) {
    switch (r(0, 5)) {
      case 0: return call("shift", s.number, r(2, 5));
      case 1: return call("teams", r(0, 2), r(1, 6));
      case 2: return call("pipe", s.number, 0, 7, r(1, 99));
      case 3: return call("mend", s.number);
      case 4: return call("trial", s.number);
      default: return model.doneForTrial(s) ? call("trial", s.number) : call("pass", r(1, 3));
    }
  }

  private String ready(Model.Ship s) {
    if (s.where == 1 && r(0, 3) > 0) return call("pass", 1);
    if (s.where == 2 && r(0, 1) == 0) return cargo(s);
    switch (r(0, 9)) {
      case 0: return call("port", r(0, 99), r(0, 99), r(20, 120));
      case 1: case 2: return call("lot", r(0, 5), r(0, 5), r(1, 40), r(0, 2), r(1, 999));
      case 3: return call("bunker", s.number, r(1, 100));
      case 4: case 5: return call("sail", s.number, r(-1, model.ports.size() - 1));
      case 6: return call("shift", s.number, r(2, 5));
      case 7: return call("limit", s.number, r(20, 120));
      case 8: return call("handOver", buyerFor(s));
      default: return call("pass", 1);
    }
  }

  private String cargo(Model.Ship s) {
    switch (r(0, 4)) {
      case 0: return call("unload", s.number);
      case 1: return call("sail", s.number, r(-1, model.ports.size() - 1));
      default: return call("stow", s.number, r(0, 7), r(0, 5));
    }
  }
}
