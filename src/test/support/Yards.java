/** Yards that have come some way, for tests that begin there. */
final class Yards {
  private Yards() {
  }

  /** One box of 40 by 10 by 6 metres, drawn, with an engine of 10 and a net of 40; bulkheads everywhere. */
  static KeelHouse drawn() {
    KeelHouse yard = new KeelHouse();
    addBox(yard);
    return yard;
  }

  static int addBox(KeelHouse yard) {
    int ship = yard.draw(0, 40, 6, 40);
    yard.power(ship, 10);
    yard.net(ship, 40);
    yard.bulkheads(ship, 31);
    return ship;
  }

  /** That box on the slip 0, with 6 teams of each trade and sheets for it in stock; it is day 1. */
  static KeelHouse onSlip() {
    KeelHouse yard = drawn();
    yard.lay(0, 0);
    supply(yard);
    yard.pass(1);
    return yard;
  }

  static void supply(KeelHouse yard) {
    yard.sheets(20, 60, 8, 1, 1);
    yard.order(0, 300);
    yard.order(0, 300);
    for (int trade = 0; trade < 3; trade++) {
      yard.teams(trade, 6);
    }
  }

  /** All jobs done that a launch asks for. */
  static KeelHouse built() {
    KeelHouse yard = onSlip();
    yard.cutAll(0, 0);
    buildOn(yard, 0, 19);
    return yard;
  }

  /** Passes days until all jobs up to the last one are done. */
  static void buildOn(KeelHouse yard, int ship, int last) {
    int jobs = (1 << last + 1) - 1;
    for (int i = 0; i < 200 && (yard.works(ship, 1) & jobs) != jobs; i++) {
      yard.pass(1);
    }
  }

  /** Too high a weight was put aboard: it capsized as it was launched. */
  static KeelHouse lost() {
    KeelHouse yard = built();
    yard.put(0, 400, 2, 0, 160);
    launch(yard, 0);
    return yard;
  }

  static KeelHouse afloat() {
    KeelHouse yard = built();
    launch(yard, 0);
    return yard;
  }

  /** That box on the slip 0 with plans of 0: the jobs 0 and 19 to 23 alone have hours to do. */
  static KeelHouse withoutStrakes() {
    KeelHouse yard = drawn();
    for (int c = 0; c < 6; c++) {
      yard.plan(0, c, 0, 0, 0);
    }
    yard.lay(0, 0);
    return yard;
  }

  /** Passes days until there is no storm, and a tide of so much. */
  static void calm(KeelHouse yard, int least) {
    for (int i = 0; i < 60 && (yard.yard(1) >= 13 || yard.yard(2) < least); i++) {
      yard.pass(1);
    }
  }

  static void launch(KeelHouse yard, int ship) {
    for (int i = 0; i < 60 && yard.hull(ship, 3) == 1; i++) {
      if (yard.launch(ship) < 0) {
        yard.pass(1);
      }
    }
  }

  static KeelHouse ready() {
    KeelHouse yard = afloat();
    buildOn(yard, 0, 23);
    tryOut(yard, 0);
    return yard;
  }

  /** Brings a yard whose ship 0 is drawn as far as that. */
  static KeelHouse ready(KeelHouse yard) {
    yard.lay(0, 0);
    supply(yard);
    yard.pass(1);
    yard.cutAll(0, 0);
    buildOn(yard, 0, 19);
    launch(yard, 0);
    buildOn(yard, 0, 23);
    tryOut(yard, 0);
    return yard;
  }

  static void tryOut(KeelHouse yard, int ship) {
    for (int i = 0; i < 20 && yard.hull(ship, 3) == 2; i++) {
      yard.trial(ship);
      yard.mend(ship);
    }
  }
}
