import java.util.ArrayList;
import java.util.List;

/**
 * All that an object's calls show. An object answers for 512 calls, so each look is at a fresh one
 * with the same past; a look that changes the object is the last one at it.
 */
final class Shown {
  interface Deed {
    void on(MatchHouse house);
  }

  private interface Look {
    void at(MatchHouse house, List<Integer> seen);
  }

  private static final List<Look> LOOKS = List.of(Shown::counts, Shown::rules, Shown::programs,
      Shown::images, Shown::sets, Shown::events, Shown::data, Shown::steps, Shown::matches,
      Shown::tapeAsSubject, Shown::tapeAsCode, Shown::tapeGoesOn);

  private Shown() {
  }

  /** What the second deed adds to the first one is not to be seen by any call. */
  static void unchanged(Dues dues, String told, Deed past, Deed refused) {
    same(dues, told, past, house -> {
      past.on(house);
      refused.on(house);
    }, true);
  }

  /** Both pasts leave the same, but perhaps for what fault() tells. */
  static void same(Dues dues, String told, Deed one, Deed other, boolean faultsToo) {
    for (int k = 0; k < LOOKS.size(); k++) {
      List<Integer> due = look(LOOKS.get(k), one);
      List<Integer> got = look(LOOKS.get(k), other);
      dues.due(told + ": answers of look " + k, got.size(), due.size());
      for (int i = 0; i < Math.min(due.size(), got.size()); i++) {
        dues.due(told + ": look " + k + ", answer " + i, got.get(i), due.get(i));
      }
    }
    if (faultsToo) {
      List<Integer> due = look(Shown::faults, one);
      List<Integer> got = look(Shown::faults, other);
      dues.due(told + ": faults", got.equals(due), true);
    }
  }

  private static List<Integer> look(Look look, Deed past) {
    MatchHouse house = new MatchHouse();
    past.on(house);
    List<Integer> seen = new ArrayList<>();
    look.at(house, seen);
    return seen;
  }

  private static void faults(MatchHouse house, List<Integer> seen) {
    for (int what = -1; what < 4; what++) {
      seen.add(house.fault(what));
    }
  }

  private static void processor(MatchHouse house, List<Integer> seen) {
    for (int what = -1; what < 12; what++) {
      seen.add(house.get(what));
    }
  }

  private static void counts(MatchHouse house, List<Integer> seen) {
    for (int what = -1; what < 9; what++) {
      seen.add(house.count(what));
    }
    for (int what = -1; what < 3; what++) {
      seen.add(house.check(what));
    }
    seen.add(house.peak());
    processor(house, seen);
  }

  private static void rules(MatchHouse house, List<Integer> seen) {
    for (int k = -1; k < 4; k++) {
      for (int what = -1; what < 13; what++) {
        seen.add(house.rule(k, what));
      }
    }
  }

  private static void programs(MatchHouse house, List<Integer> seen) {
    for (int i = -1; i < 40; i++) {
      for (int what = -1; what < 5; what++) {
        seen.add(house.program(i, what));
      }
    }
  }

  private static void images(MatchHouse house, List<Integer> seen) {
    for (int i = -1; i < 240; i++) {
      seen.add(house.image(i));
    }
    int size = house.count(3);
    for (int i = size - 10; i <= size; i++) {
      seen.add(house.image(i));
    }
  }

  private static void sets(MatchHouse house, List<Integer> seen) {
    for (int k = -1; k < 6; k++) {
      for (int w = -1; w < 9; w++) {
        seen.add(house.set(k, w));
      }
    }
  }

  private static void events(MatchHouse house, List<Integer> seen) {
    for (int i = -1; i < 20; i++) {
      for (int what = -1; what < 4; what++) {
        seen.add(house.event(i, what));
      }
    }
  }

  private static void data(MatchHouse house, List<Integer> seen) {
    for (int at : new int[] {0, 4096, 8192, 12288, 28672, 40000, 65496}) {
      for (int k = 0; k < 10; k++) {
        seen.add(house.load(at + 4 * k));
      }
    }
    for (int k = 0; k < 100; k++) {
      seen.add(house.load(655 * k));
    }
  }

  private static void steps(MatchHouse house, List<Integer> seen) {
    for (int n : new int[] {0, 1, 2, 100000}) {
      seen.add(house.run(n));
      processor(house, seen);
    }
  }

  private static void matches(MatchHouse house, List<Integer> seen) {
    seen.add(house.match(0, 100));
    seen.add(house.peak());
    events(house, seen);
    seen.add(house.match(house.count(5), 1000));
    seen.add(house.match(0, 1));
    processor(house, seen);
  }

  private static void tapeAsSubject(MatchHouse house, List<Integer> seen) {
    seen.add(house.count(6));
    seen.add(house.subject());
    seen.add(house.count(5));
    seen.add(house.count(6));
    seen.add(house.arm(0, 100) ? 1 : 0);
    for (int k = 0; k < 100; k++) {
      seen.add(house.load(4 * k));
      seen.add(house.load(3600 + 4 * k));
    }
  }

  private static void tapeAsCode(MatchHouse house, List<Integer> seen) {
    seen.add(house.place());
    seen.add(house.check(0));
    seen.add(house.check(1));
    seen.add(house.count(7));
    steps(house, seen);
  }

  private static void tapeGoesOn(MatchHouse house, List<Integer> seen) {
    seen.add(house.feed(0x61626364, 0x65666768, 0x696A6B6C, 0x6D6E6F70, 0x71727374));
    tapeAsSubject(house, seen);
  }
}
