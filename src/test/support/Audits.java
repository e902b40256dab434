/** What an audit has to tell, reckoned from what the face answers. */
final class Audits {
  private Audits() {
  }

  private static int e;

  private static void then(int v) {
    e = e * 31 + v;
  }

  /** As section 10 tells it, by what the face answers. */
  static int of(KeelHouse yard, int part) {
    int ships = yard.yard(7);
    e = part;
    switch (part) {
      case 4: kinds(yard); break;
      case 5: edge(yard); break;
      case 6:
        for (int what = 0; what <= 13; what++) {
          then(yard.yard(what));
        }
        break;
      case 8: buyers(yard, 4); break;
      case 10:
        for (int account = 0; account <= 8; account++) {
          then(yard.money(account, 3, 14));
        }
        then(yard.cash());
        break;
      default: break;
    }
    for (int ship = 0; ship < ships; ship++) {
      ofShip(yard, part, ship);
    }
    for (int lot = 0; part == 9 && lot < 8; lot++) {
      lot(yard, lot);
    }
    return e;
  }

  private static void kinds(KeelHouse yard) {
    for (int kind = 0; kind < yard.yard(8); kind++) {
      for (int what = 0; what <= 8; what++) {
        then(yard.store(kind, what));
      }
    }
  }

  private static void edge(KeelHouse yard) {
    for (int spot = 0; spot < 6; spot++) {
      then(yard.spot(spot, 0));
    }
  }

  private static void buyers(KeelHouse yard, int most) {
    for (int buyer = 0; buyer < most; buyer++) {
      for (int what = 0; what <= 10; what++) {
        try {
          then(yard.sale(buyer, what));
        } catch (IndexOutOfBoundsException none) {
          return;
        }
      }
    }
  }

  private static void lot(KeelHouse yard, int lot) {
    for (int what = 0; what <= 3; what++) {
      try {
        then(yard.ofLot(lot, what));
      } catch (IndexOutOfBoundsException none) {
        return;
      }
    }
  }

  private static void ofShip(KeelHouse yard, int part, int ship) {
    for (int what = 0; part == 1 && what <= 134; what++) {
      if (what <= 3 || what >= 100) {
        then(yard.hull(ship, what));
      }
    }
    for (int what = 0; part == 2 && what <= 8; what++) {
      then((int) (64.0 * yard.floats(ship, what)));
    }
    for (int at = 0; part == 3 && at < 36; at++) {
      then(yard.strake(ship, at / 6, at % 6));
    }
    for (int what = 0; part == 5 && what <= 2; what++) {
      then(yard.lies(ship, what));
    }
    for (int what = 0; part == 6 && yard.hull(ship, 3) > 0 && what <= 3; what++) {
      then(yard.works(ship, what));
    }
    for (int what = 0; part == 7 && what <= 8; what++) {
      then(yard.engine(ship, what));
    }
    for (int what = 0; part == 9 && what <= 8; what++) {
      then(yard.voyage(ship, what));
    }
    if (part == 2) {
      then(yard.survives(ship));
    } else if (part == 3) {
      then(yard.weakest(ship, false));
    } else if (part == 8) {
      then(yard.breaks(ship));
    }
  }
}
