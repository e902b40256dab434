import java.util.EnumSet;
import java.util.Set;

/** Where a ship 0 can be, and a yard with one there. */
enum Place {
  DRAWN, SLIP, AFLOAT, AFLOAT_IN_DOCK, READY, READY_IN_DOCK, SEA, WAITING, PORT, LOST, SOLD;

  static final Set<Place> NOT_GONE = EnumSet.complementOf(EnumSet.of(LOST, SOLD));
  static final Set<Place> LAID_DOWN = EnumSet.complementOf(EnumSet.of(DRAWN));

  /** Sheets of a kind 0, two ports, a lot at the port 0, and a buyer that waits are in each. */
  KeelHouse yard() {
    if (this == WAITING) {
      return waiting();
    }
    KeelHouse yard = begun();
    if (this == DRAWN) {
      return yard;
    }
    yard.lay(0, 0);
    if (this == SLIP) {
      return yard;
    }
    build(yard);
    if (this == LOST) {
      yard.put(0, 400, 2, 0, 160);
    }
    Yards.launch(yard, 0);
    if (this == AFLOAT_IN_DOCK) {
      dock(yard);
    }
    if (this == AFLOAT || this == AFLOAT_IN_DOCK || this == LOST) {
      return yard;
    }
    Yards.buildOn(yard, 0, 23);
    Yards.tryOut(yard, 0);
    leave(yard);
    return yard;
  }

  private void leave(KeelHouse yard) {
    switch (this) {
      case READY_IN_DOCK:
        dock(yard);
        break;
      case SEA:
        yard.sail(0, 1);
        break;
      case PORT:
        yard.sail(0, 0);
        comeIn(yard);
        break;
      case SOLD:
        yard.buyer(20, 0, 0, 300, 500);
        yard.bid(1, 0, 400);
        yard.handOver(1);
        break;
      default:
        break;
    }
  }

  private static KeelHouse begun() {
    KeelHouse yard = Yards.drawn();
    addOthers(yard);
    yard.limit(0, 400);
    return yard;
  }

  private static void addOthers(KeelHouse yard) {
    Yards.supply(yard);
    yard.pass(1);
    yard.port(20, 20, 100);
    yard.port(40, 20, 100);
    yard.lot(0, 1, 10, 0, 100);
    yard.buyer(20, 0, 0, 300, 500);
  }

  private static void build(KeelHouse yard) {
    yard.cutAll(0, 0);
    Yards.buildOn(yard, 0, 19);
  }

  private static void dock(KeelHouse yard) {
    Yards.calm(yard, 45);
    yard.shift(0, 2);
  }

  private static void comeIn(KeelHouse yard) {
    for (int i = 0; i < 40 && yard.voyage(0, 0) == 1; i++) {
      yard.pass(1);
    }
  }

  /** Of 80 metres it fits the last berth alone, and another one lies there. */
  private static KeelHouse waiting() {
    KeelHouse yard = new KeelHouse();
    yard.draw(0, 80, 6, 40);
    yard.power(0, 20);
    yard.net(0, 40);
    yard.limit(0, 400);
    Yards.addBox(yard);
    addOthers(yard);
    yard.order(0, 300);
    yard.order(0, 300);
    yard.pass(1);
    yard.lay(0, 1);
    yard.lay(1, 0);
    build(yard);
    Yards.launch(yard, 0);
    Yards.buildOn(yard, 0, 23);
    Yards.tryOut(yard, 0);
    yard.cutAll(1, 0);
    Yards.buildOn(yard, 1, 19);
    yard.sail(0, 0);
    comeIn(yard);
    Yards.launch(yard, 1);
    Yards.calm(yard, 45);
    yard.shift(1, 5);
    yard.sail(0, -1);
    for (int i = 0; i < 60 && (yard.voyage(0, 3) > 0 || yard.voyage(0, 0) != 1); i++) {
      yard.pass(1);
    }
    return yard;
  }

  /** What is told of the ship there. */
  String told() {
    switch (this) {
      case DRAWN: return "0 drawn";
      case SLIP: return "0 slip at 0";
      case AFLOAT: return "0 afloat at 3";
      case AFLOAT_IN_DOCK: return "0 afloat at 2";
      case READY: return "0 ready at 3";
      case READY_IN_DOCK: return "0 ready at 2";
      case SEA: return "0 ready at sea";
      case WAITING: return "0 ready at sea";
      case PORT: return "0 ready at port 0";
      case LOST: return "0 lost";
      default: return "0 sold";
    }
  }
}
