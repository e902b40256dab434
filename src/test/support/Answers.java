import java.util.ArrayList;
import java.util.List;

/** All that a yard can be asked, in one row: two yards that answer alike have come as far. */
final class Answers {
  record Answer(String call, int ship, int what, int more, Object told) {
  }

  private interface Asked {
    Object tell();
  }

  private final KeelHouse yard;
  private final List<Answer> row = new ArrayList<>(1500);

  private Answers(KeelHouse yard) {
    this.yard = yard;
  }

  static List<Answer> of(KeelHouse yard) {
    Answers answers = new Answers(yard);
    answers.askAll();
    return answers.row;
  }

  /** The first answer that is another one, or "alike". */
  static String apart(List<Answer> before, List<Answer> after) {
    for (int i = 0; i < Math.min(before.size(), after.size()); i++) {
      if (!before.get(i).equals(after.get(i))) {
        return before.get(i) + " became " + after.get(i);
      }
    }
    return before.size() == after.size() ? "alike" : before.size() + " answers became " + after.size();
  }

  private void add(String call, int ship, int what, int more, Asked asked) {
    Object told;
    try {
      told = asked.tell();
    } catch (IllegalStateException e) {
      told = "not in this state";
    }
    row.add(new Answer(call, ship, what, more, told));
  }

  private static boolean isThere(Asked asked) {
    try {
      asked.tell();
      return true;
    } catch (IndexOutOfBoundsException e) {
      return false;
    }
  }

  private void askAll() {
    for (int what = 0; what <= 13; what++) {
      int w = what;
      add("yard", -1, w, 0, () -> yard.yard(w));
    }
    add("cash", -1, 0, 0, () -> yard.cash());
    add("digest", -1, 0, 0, () -> yard.digest());
    add("isSound", -1, 0, 0, () -> yard.isSound());
    for (int ship = 0; ship < yard.yard(7); ship++) {
      askHull(ship);
      askFloating(ship);
      askStrength(ship);
      askWorks(ship);
      askRest(ship);
    }
    askStore();
    askMoney();
    askSales();
    askVoyages();
  }

  private void askHull(int ship) {
    for (int what = 0; what <= 134; what += what == 3 ? 97 : 1) {
      int w = what;
      add("hull", ship, w, 0, () -> yard.hull(ship, w));
    }
    for (int what = 0; what <= 6; what++) {
      int w = what;
      add("water", ship, 9, w, () -> yard.water(ship, 9, w));
    }
    add("draught", ship, 77, 0, () -> yard.draught(ship, 77));
    add("tell", ship, 0, 0, () -> yard.tell(ship));
  }

  private void askFloating(int ship) {
    for (int what = 0; what <= 8; what++) {
      int w = what;
      add("floats", ship, w, 0, () -> yard.floats(ship, w));
    }
    for (int holed = 1; holed <= 32; holed *= 2) {
      int h = holed;
      add("flood", ship, h, 0, () -> yard.flood(ship, h, false));
      add("flood", ship, h, 1, () -> yard.flood(ship, h, true));
    }
    add("survives", ship, 0, 0, () -> yard.survives(ship));
  }

  private void askStrength(int ship) {
    for (int at = 0; at < 36; at++) {
      int c = at / 6;
      int w = at % 6;
      add("strake", ship, c, w, () -> yard.strake(ship, c, w));
    }
    for (int what = 0; what <= 18; what++) {
      int w = what;
      add("test", ship, 1, w, () -> yard.test(ship, 1, false, w));
      add("test by plan", ship, 2, w, () -> yard.test(ship, 2, true, w));
    }
    add("weakest", ship, 0, 0, () -> yard.weakest(ship, false));
    add("weakest by plan", ship, 0, 0, () -> yard.weakest(ship, true));
  }

  private void askWorks(int ship) {
    for (int job = 0; job < 24; job++) {
      for (int what = 0; what <= 8; what++) {
        int j = job;
        int w = what;
        add("job", ship, j, w, () -> yard.job(ship, j, w));
      }
    }
    for (int what = 0; what <= 3; what++) {
      int w = what;
      add("works", ship, w, 0, () -> yard.works(ship, w));
    }
    add("done", ship, 3, 0, () -> yard.done(ship, 3));
    add("launchDay", ship, 0, 0, () -> yard.launchDay(ship));
  }

  private void askRest(int ship) {
    for (int what = 0; what <= 8; what++) {
      int w = what;
      add("engine", ship, w, 0, () -> yard.engine(ship, w));
      add("voyage", ship, w, 0, () -> yard.voyage(ship, w));
    }
    for (int what = 0; what <= 2; what++) {
      int w = what;
      add("lies", ship, w, 0, () -> yard.lies(ship, w));
    }
    add("speed", ship, -1, 0, () -> yard.speed(ship, -1));
    add("speed", ship, 600, 0, () -> yard.speed(ship, 600));
    add("breaks", ship, 0, 0, () -> yard.breaks(ship));
    add("bestBuyer", ship, 0, 0, () -> yard.bestBuyer(ship));
  }

  private void askStore() {
    for (int kind = 0; kind < yard.yard(8); kind++) {
      int k = kind;
      for (int what = 0; what <= 8; what++) {
        int w = what;
        add("store", k, w, 0, () -> yard.store(k, w));
      }
      for (int ship = 0; ship < yard.yard(7); ship++) {
        int s = ship;
        add("needs", s, k, 0, () -> yard.needs(s, k));
      }
    }
    for (int spot = 0; spot < 6; spot++) {
      int s = spot;
      add("spot", s, 0, 0, () -> yard.spot(s, 0));
      add("spot", s, 3, 0, () -> yard.spot(s, 3));
    }
  }

  private void askMoney() {
    int[] whose = {-1, 0, 1, 2};
    for (int ship = 0; ship <= yard.yard(7); ship++) {
      int s = whose[ship];
      for (int account = 0; account <= 8; account++) {
        int a = account;
        int last = yard.yard(0) / 30;
        add("money", s, a, 14, () -> yard.money(a, s, 14));
        add("money", s, a, last, () -> yard.money(a, s, last));
      }
    }
  }

  private void askSales() {
    for (int buyer = 0; buyer < 4 && isThere(buyerAt(buyer)); buyer++) {
      int b = buyer;
      for (int what = 0; what <= 10; what++) {
        int w = what;
        add("sale", b, w, 0, () -> yard.sale(b, w));
      }
    }
  }

  private Asked buyerAt(int buyer) {
    return () -> yard.sale(buyer, 0);
  }

  private Asked lotAt(int lot) {
    return () -> yard.ofLot(lot, 0);
  }

  private Asked portAt(int port) {
    return () -> yard.route(port, 0, true);
  }

  private void askVoyages() {
    for (int lot = 0; lot < 8 && isThere(lotAt(lot)); lot++) {
      int l = lot;
      for (int what = 0; what <= 3; what++) {
        int w = what;
        add("ofLot", l, w, 0, () -> yard.ofLot(l, w));
      }
    }
    int ports = 0;
    while (ports < 6 && isThere(portAt(ports))) {
      ports++;
    }
    for (int port = -1; port < ports; port++) {
      int p = port;
      int all = (1 << ports) - 1;
      add("route", p, 0, 1, () -> yard.route(p, 0, true));
      add("route", p, all, 1, () -> yard.route(p, all, true));
      add("route", p, all, 0, () -> yard.route(p, all, false));
    }
  }
}
