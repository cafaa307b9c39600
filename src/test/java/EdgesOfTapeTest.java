/** The edges that Part I and promises 1 to 3, 11, 16 name: of the tape, of what it becomes. */
public final class EdgesOfTapeTest {
  private static final Dues DUES = new Dues("EdgesOfTapeTest");
  private static final int MIN = Integer.MIN_VALUE;
  private static final int MAX = Integer.MAX_VALUE;

  public static void main(String[] args) {
    newObjectHasNothing();
    feedUpToFourThousand();
    feedBehindWhatEndLeft();
    refusedFeedChangesNothing();
    highestByteFirst();
    endTakesWhatItHas();
    refusedEndChangesNothing();
    subjectOfNone();
    subjectOfAll();
    shorterSubjectHasNoneOfTheOneBefore();
    placeOfNone();
    placeOfAll();
    shorterImageHasNoneOfTheOneBefore();
    placeLeavesAllOthers();
    askingChangesNothing();
    otherObjectsChangeNothing();
    DUES.finish();
  }

  private static void due(String what, long got, long want) {
    DUES.due(what, got, want);
  }

  private static void fill(MatchHouse house, int feeds) {
    for (int k = 0; k < feeds; k++) {
      house.feed(k << 16 | 0x4100, k << 16 | 0x4200, k, k << 8, 0x7F000001 + k);
    }
  }

  /** "An empty tape, no GRAMMAR, an empty SUBJECT; .. an empty IMAGE, .. eip 65536, no STOP." */
  private static void newObjectHasNothing() {
    MatchHouse house = new MatchHouse();
    for (int what = 0; what < 8; what++) {
      due("new: count(" + what + ")", house.count(what), 0);
    }
    for (int what = 0; what < 11; what++) {
      due("new: get(" + what + ")", house.get(what), what == 9 ? 65536 : 0);
    }
    due("new: load(0)", house.load(0), 0);
    due("new: load(65532)", house.load(65532), 0);
    due("new: check(0)", house.check(0), 0);
    due("new: check(1)", house.check(1), -1);
    due("new: peak", house.peak(), 0);
    due("new: fault(0)", house.fault(0), -1);
    due("new: fault(1)", house.fault(1), -1);
    due("new: set(0, 0)", house.set(0, 0), 0);
    due("new: image(0)", house.image(0), -1);
    due("new: program(0, 0)", house.program(0, 0), -1);
    due("new: rule(0, 0)", house.rule(0, 0), -1);
    due("new: event(0, 0)", house.event(0, 0), -1);
    due("new: end(1)", house.end(1), -1);
    due("new: end(0)", house.end(0), 0);
    due("new: run(0)", house.run(0), 0);
    due("new: no STOP behind run(0)", house.get(10), 0);
    due("new: run(1): CODE has 244 alone", house.run(1), 0);
    due("new: HLT", house.get(10), 1);
  }

  /** "Twenty bytes come behind the tape .. NONE when there would be more than 4000." */
  private static void feedUpToFourThousand() {
    MatchHouse house = new MatchHouse();
    for (int k = 1; k <= 200; k++) {
      due("feed " + k, house.feed(1, 2, 3, 4, 5), 20 * k);
    }
    due("feed 201", house.feed(1, 2, 3, 4, 5), -1);
    due("count(6) of a full tape", house.count(6), 4000);
    due("feed 202", house.feed(0, 0, 0, 0, 0), -1);
  }

  /** The last tape with room for twenty bytes, and all that have less. */
  private static void feedBehindWhatEndLeft() {
    for (int left = 3978; left <= 4000; left++) {
      MatchHouse house = new MatchHouse();
      fill(house, 200);
      due("end(" + left + ")", house.end(left), left);
      due("feed on " + left, house.feed(1, 2, 3, 4, 5), left <= 3980 ? left + 20 : -1);
      due("count(6) of " + left, house.count(6), left <= 3980 ? left + 20 : left);
    }
    MatchHouse house = new MatchHouse();
    fill(house, 200);
    house.end(3980);
    house.feed(1, 2, 3, 4, 5);
    due("full again", house.feed(1, 2, 3, 4, 5), -1);
    due("end(0)", house.end(0), 0);
    due("feed on none", house.feed(1, 2, 3, 4, 5), 20);
    due("end(1)", house.end(1), 1);
    due("feed on one", house.feed(1, 2, 3, 4, 5), 21);
  }

  private static void refusedFeedChangesNothing() {
    for (int left : new int[] {3981, 3999, 4000}) {
      Shown.unchanged(DUES, "feed on " + left, house -> {
        fill(house, 200);
        house.end(left);
      }, house -> house.feed(-1, -1, -1, -1, -1));
    }
  }

  /** "Of each number the highest first." */
  private static void highestByteFirst() {
    MatchHouse house = new MatchHouse();
    Dues.grammar(house, "a=;");
    house.feed(0x01020304, 0x80FF7F00, -1, MIN, MAX);
    due("subject", house.subject(), 20);
    due("arm", house.arm(0, 1) ? 1 : 0, 1);
    int[] words = {0x04030201, 0x007FFF80, -1, 0x00000080, 0xFFFFFF7F, 0};
    for (int k = 0; k < words.length; k++) {
      due("word " + k, house.load(4 * k), words[k]);
    }
    house.feed(0x0A0B0C0D, 0, 0, 0, 0);
    house.end(2);
    due("what end cut goes", house.feed(0x11223344, 0, 0, 0, 0), 22);
    house.subject();
    house.arm(0, 1);
    due("word 0 of both", house.load(0), 0x22110B0A);
    due("word 1 of both", house.load(4), 0x00004433);
  }

  /** "The tape has its first n bytes alone: n. NONE when it has not so many, or n is below 0." */
  private static void endTakesWhatItHas() {
    MatchHouse house = new MatchHouse();
    due("end(0) of none", house.end(0), 0);
    due("end(1) of none", house.end(1), -1);
    due("end(-1) of none", house.end(-1), -1);
    house.feed(1, 2, 3, 4, 5);
    due("end(21) of 20", house.end(21), -1);
    due("end(20) of 20", house.end(20), 20);
    due("end(-1) of 20", house.end(-1), -1);
    due("end(min) of 20", house.end(MIN), -1);
    due("end(max) of 20", house.end(MAX), -1);
    due("count(6)", house.count(6), 20);
    due("end(19)", house.end(19), 19);
    due("end(20) of 19", house.end(20), -1);
    due("end(1)", house.end(1), 1);
    due("end(1) of 1", house.end(1), 1);
    due("end(2) of 1", house.end(2), -1);
    due("end(0)", house.end(0), 0);
    due("end(1) behind end(0)", house.end(1), -1);
    fill(house, 200);
    due("end(4001) of 4000", house.end(4001), -1);
    due("end(4000) of 4000", house.end(4000), 4000);
    due("end(3999) of 4000", house.end(3999), 3999);
    due("end(4000) of 3999", house.end(4000), -1);
  }

  private static void refusedEndChangesNothing() {
    for (int n : new int[] {-1, 41, 4000, 4001, MIN, MAX}) {
      Shown.unchanged(DUES, "end(" + n + ") of 40", house -> fill(house, 2), house -> house.end(n));
    }
    Shown.unchanged(DUES, "end(4001) of 4000", house -> fill(house, 200), house -> house.end(4001));
    Shown.unchanged(DUES, "end(1) of none", house -> house.put(0, 7), house -> house.end(1));
  }

  /** "The tape (empty then) becomes the SUBJECT": an empty one. */
  private static void subjectOfNone() {
    MatchHouse house = new MatchHouse();
    due("subject of none", house.subject(), 0);
    due("count(5)", house.count(5), 0);
    Dues.grammar(house, "a=.*;");
    due("arm(0)", house.arm(0, 1) ? 1 : 0, 1);
    due("arm(1)", house.arm(1, 1) ? 1 : 0, 0);
    Dues.subject(house, "abc");
    due("count(5) of abc", house.count(5), 3);
    due("count(6) behind subject()", house.count(6), 0);
    due("end(1) behind subject()", house.end(1), -1);
    due("subject of none again", house.subject(), 0);
    due("count(5) again", house.count(5), 0);
    due("match of none", house.match(0, 1), 0);
    due("the word of abc is gone", house.load(0), 0);
    due("the length", house.load(8192), 0);
  }

  /** "The tape has bytes, at most 4000: it becomes .. a SUBJECT": a full one. */
  private static void subjectOfAll() {
    MatchHouse house = new MatchHouse();
    Dues.grammar(house, "a=.*;");
    for (int k = 0; k < 200; k++) {
      house.feed(5 * k, 5 * k + 1, 5 * k + 2, 5 * k + 3, 5 * k + 4);
    }
    due("subject of 4000", house.subject(), 4000);
    due("count(5)", house.count(5), 4000);
    due("count(6)", house.count(6), 0);
    due("match of 4000", house.match(0, 2), 4000);
    due("match at 3999", house.match(3999, 2), 1);
    due("match at 4000", house.match(4000, 2), 0);
    due("match at 4001", house.match(4001, 2), -1);
    due("the length", house.load(8192), 4000);
    due("behind the subject", house.load(4000), 0);
    for (int k : new int[] {0, 1, 255, 256, 998, 999}) {
      due("word " + k, house.load(4 * k), Integer.reverseBytes(k));
    }
  }

  private static void shorterSubjectHasNoneOfTheOneBefore() {
    MatchHouse house = new MatchHouse();
    Dues.grammar(house, "a=.*;");
    Dues.subject(house, "abcdefgh");
    due("match of 8", house.match(0, 2), 8);
    Dues.subject(house, "xy");
    due("match of 2", house.match(0, 2), 2);
    due("word 0", house.load(0), 0x00007978);
    due("word 1", house.load(4), 0);
    due("match at 3", house.match(3, 2), -1);
  }

  /** "The tape (empty then) becomes the PROCESSOR's IMAGE": an empty one. */
  private static void placeOfNone() {
    MatchHouse house = new MatchHouse();
    Dues.code(house, "43 43 43");
    due("count(6) behind place()", house.count(6), 0);
    due("end(1) behind place()", house.end(1), -1);
    due("place of none", house.place(), 0);
    due("count(7)", house.count(7), 0);
    due("check(0)", house.check(0), 0);
    due("check(1)", house.check(1), -1);
    due("run", house.run(5), 0);
    due("HLT at once", house.get(10), 1);
    due("eip", house.get(9), 65536);
    due("ebx", house.get(3), 0);
  }

  /** A full one: all its 4000 bytes are done, and the HLT behind them. */
  private static void placeOfAll() {
    MatchHouse house = new MatchHouse();
    int row = 0x43434343;
    for (int k = 0; k < 200; k++) {
      house.feed(row, row, row, row, row);
    }
    due("place of 4000", house.place(), 4000);
    due("count(7)", house.count(7), 4000);
    due("check(0)", house.check(0), 0);
    due("run(3999)", house.run(3999), 3999);
    due("no STOP", house.get(10), 0);
    due("run(2)", house.run(2), 1);
    due("ebx", house.get(3), 4000);
    due("HLT behind it", house.get(10), 1);
    due("eip", house.get(9), 65536 + 4000);
    for (int k = 0; k < 200; k++) {
      house.feed(row, row, row, row, k == 199 ? 0x43434306 : row);
    }
    house.place();
    due("UNKNOWN as the last byte: check(0)", house.check(0), 1);
    due("UNKNOWN as the last byte: check(1)", house.check(1), 3999);
    due("run to it", house.run(100000), 3999);
    due("STOP of it", house.get(10), 4);
  }

  private static void shorterImageHasNoneOfTheOneBefore() {
    MatchHouse house = new MatchHouse();
    Dues.code(house, "43 43 43 06");
    due("check(0) of 4", house.check(0), 1);
    Dues.code(house, "43");
    due("check(0) of 1", house.check(0), 0);
    due("run of 1", house.run(9), 1);
    due("HLT behind 1", house.get(10), 1);
    due("begin(3)", house.begin(3) ? 1 : 0, 1);
    due("run at 3", house.run(1), 0);
    due("HLT at 3", house.get(10), 1);
  }

  /** "eip is 65536, no STOP; all others stay." */
  private static void placeLeavesAllOthers() {
    MatchHouse house = new MatchHouse();
    Dues.grammar(house, "a={'x'};");
    Dues.subject(house, "x");
    due("match", house.match(0, 9), 1);
    house.put(8, 2048);
    due("place", Dues.code(house, "06"), 1);
    due("eip", house.get(9), 65536);
    due("no STOP", house.get(10), 0);
    due("eax stays", house.get(0), 1);
    due("FLAGS stay", house.get(8), 2048);
    due("DATA stays", house.load(28672 + 12), 1);
    due("peak stays", house.peak(), 3);
    due("event stays", house.event(1, 2), 1);
    due("the GRAMMAR stays", house.count(0), 1);
    due("the SUBJECT stays", house.count(5), 1);
    due("match again", house.match(0, 9), 1);
  }

  private static void past(MatchHouse house) {
    Dues.grammar(house, "a={'x'}{[yz]}b?;b=[ab]+;");
    Dues.subject(house, "xyabq");
    house.match(0, 50);
    Dues.grammar(house, "a=b;");
    Dues.code(house, "43 01 c8 eb fb");
    house.put(1, 77);
    house.store(100, 0x01020304);
    house.begin(1);
    house.feed(1, 2, 3, 4, 5);
  }

  /** What is asked, rightly or wrongly, changes nothing. */
  private static void askingChangesNothing() {
    Shown.unchanged(DUES, "asking", EdgesOfTapeTest::past, house -> {
      for (int odd : new int[] {-1, 0, 1, 7, 12, 4000, 65533, MIN, MAX}) {
        house.fault(odd);
        house.count(odd);
        house.rule(odd, 0);
        house.rule(0, odd);
        house.program(odd, 0);
        house.program(0, odd);
        house.set(odd, 0);
        house.set(0, odd);
        house.image(odd);
        house.event(odd, 0);
        house.event(0, odd);
        house.peak();
        house.check(odd);
        house.get(odd);
        house.load(odd);
      }
    });
  }

  /** "All memory is the class's own", and each object's its own. */
  private static void otherObjectsChangeNothing() {
    MatchHouse other = new MatchHouse();
    Shown.unchanged(DUES, "another object", EdgesOfTapeTest::past, house -> {
      Dues.grammar(other, "q=.*{};r=[^x]'y';s={}{}q;");
      Dues.subject(other, "qqqqqqqq");
      other.match(3, 9);
      other.check(0);
      Dues.code(other, "ff e1");
      other.check(0);
      other.run(1);
      other.put(1, -1);
      other.put(8, -1);
      other.store(100, -1);
      other.feed(-1, -1, -1, -1, -1);
    });
  }
}
