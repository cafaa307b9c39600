/** The edges that Part VI and promise 17 name: of INSTRUCTIONS, BUNDLES, GOALS, MASKS. */
public final class EdgesOfCheckTest {
  private static final Dues DUES = new Dues("EdgesOfCheckTest");
  private static final int BEYOND = 1;
  private static final int SPLIT = 2;
  private static final int BARRED = 3;
  private static final int LOOSE = 4;
  private static final int WILD = 5;
  private static final int ASTRAY = 6;
  private static final int DATA = 131072;
  private static final int END = 196608;
  // and eax, 127; mov eax, [eax+131072]: a MASK, and what needs it.
  private static final String MASK = "83 e0 7f ";
  private static final String NEEDS = "8b 80 00 00 02 00 ";
  private static final String GO = "81 e1 e0 ff 00 00 81 c1 00 00 01 00 ff e1 ";

  public static void main(String[] args) {
    whatOtherThanNoneAndOne();
    imageOfNoneAndOfAll();
    upToTheFirstThatIsNone();
    beyondTheImageEnd();
    bundlesOfThirtyTwo();
    barredInstructions();
    numberAlone();
    registerWithMask();
    maskNumbers();
    nothingOfTheOneAhead();
    maskIsOfItsRegister();
    maskUntilItIsWritten();
    maskStaysWhereNothingIsWritten();
    maskUpToTheBundleEnd();
    maskUpToTheNextGoal();
    goalsOfRefusedOnes();
    jumpByRegister();
    jumpInOneBundleWithoutGoals();
    goalsOfTheImage();
    goalsBehindTheImage();
    firstReasonAndFirstInstruction();
    checkAfterOtherCalls();
    DUES.finish();
  }

  private static String nops(int many) {
    return "90 ".repeat(many);
  }

  private static String word(int v) {
    return String.format("%02x %02x %02x %02x ", v & 255, v >> 8 & 255, v >> 16 & 255, v >>> 24);
  }

  private static void due(String what, long got, long want) {
    DUES.due(what, got, want);
  }

  private static void refused(String code, int reason, int place) {
    MatchHouse house = new MatchHouse();
    Dues.code(house, code);
    due("check(0) of " + code, house.check(0), reason);
    due("check(1) of " + code, house.check(1), place);
    due("check(0) again", house.check(0), reason);
  }

  private static void passes(String code) {
    refused(code, 0, -1);
  }

  private static void confined(String code, boolean fine, int reason, int place) {
    refused(code, fine ? 0 : reason, fine ? -1 : place);
  }

  /** "0 if it passes; .. NONE if it passes. NONE for another what." */
  private static void whatOtherThanNoneAndOne() {
    MatchHouse house = new MatchHouse();
    for (int what : new int[] {-1, 2, 3, Integer.MIN_VALUE, Integer.MAX_VALUE}) {
      due("empty: check(" + what + ")", house.check(what), -1);
    }
    due("empty: check(0)", house.check(0), 0);
    due("empty: check(1)", house.check(1), -1);
    Dues.code(house, "90 06");
    for (int what : new int[] {-1, 2, 3, Integer.MIN_VALUE, Integer.MAX_VALUE}) {
      due("refused: check(" + what + ")", house.check(what), -1);
    }
    due("refused: check(1)", house.check(1), 1);
    due("refused: check(0)", house.check(0), 1);
  }

  private static void imageOfNoneAndOfAll() {
    passes("");
    passes("90");
    passes(nops(4000));
    refused(nops(3999) + "06", BEYOND, 3999);
    refused(nops(3999) + "eb", BEYOND, 3999);
    passes(nops(3998) + "eb fe");
    refused("06" + nops(3999), BEYOND, 0);
    refused("50" + nops(3999), BARRED, 0);
  }

  /** "To its end, or up to the first that is none (which is not one of them)" */
  private static void upToTheFirstThatIsNone() {
    refused("06", BEYOND, 0);
    refused("90 06 50", BEYOND, 1);
    refused("50 06", BARRED, 0);
    refused("f4 06", BEYOND, 1);
    // Behind it nothing is an INSTRUCTION: no beginning, and no GOAL.
    refused("eb 01 06 90", ASTRAY, 0);
    refused("eb 00 06 90", ASTRAY, 0);
    refused("eb 00 90 06", BEYOND, 3);
    refused(MASK + NEEDS + "06 eb f7", BEYOND, 9);
    refused(MASK + NEEDS + "90 eb f7", LOOSE, 3);
    refused("8d c0", BEYOND, 0);
    refused("0f a3 00", BEYOND, 0);
    refused("c6 c8 00", BEYOND, 0);
  }

  /** "1 it is UNKNOWN, or goes beyond the IMAGE's end": each size, whole and cut. */
  private static void beyondTheImageEnd() {
    String[] codes = {"f4", "eb 00", "83 c0 01", "0f 94 c0", "8d 44 08 01", "b8 01 02 03 04",
        "81 c0 01 00 00 00", "0f 84 00 00 00 00", "8d 04 85 00 00 00 00",
        "c7 05 00 00 02 00 01 00 00 00", "8d 84 08 00 00 00 00"};
    for (String code : codes) {
      passes(code);
      passes("90" + code);
      byte[] all = Dues.hex(code);
      for (int size = 1; size < all.length; size++) {
        String cut = code.replace(" ", "").substring(0, 2 * size);
        refused(cut, BEYOND, 0);
        refused("90 75 fd" + cut, BEYOND, 3);
        refused("75 00" + cut, ASTRAY, 0);
        refused("75 01 90" + cut, ASTRAY, 0);
      }
      passes("75 00" + code);
      passes("75 01 90" + code);
    }
    // What is cut has no GOAL.
    refused(MASK + NEEDS + "90 eb", BEYOND, 10);
    refused(GO + "e9 f4 ff ff", BEYOND, 14);
    refused(GO + "e9 f9 ff ff ff", WILD, 12);
  }

  /** "2 it begins in one BUNDLE and ends in another": its last byte is the BUNDLE's last. */
  private static void bundlesOfThirtyTwo() {
    String[] codes = {"eb 00", "83 c0 01", "8d 44 08 01", "b8 01 02 03 04", "81 c0 01 00 00 00",
        "8d 04 85 00 00 00 00", "c7 05 00 00 02 00 01 00 00 00"};
    for (String code : codes) {
      int size = Dues.hex(code).length;
      for (int bundle : new int[] {0, 1, 2, 100}) {
        int start = 32 * bundle;
        passes(nops(start + 32 - size) + code);
        passes(nops(start + 32 - size) + code + "90");
        refused(nops(start + 33 - size) + code, SPLIT, start + 33 - size);
        refused(nops(start + 31) + code, SPLIT, start + 31);
        passes(nops(start + 32) + code);
      }
    }
    passes(nops(31) + "f4");
    passes(nops(32) + "f4");
    refused(nops(31) + "eb", BEYOND, 31);
    refused(nops(31) + "b8 00 00", BEYOND, 31);
  }

  /** "3 it is a push, pop, call, ret, or a jmp M with M in memory" */
  private static void barredInstructions() {
    String[] codes = {"50", "57", "58", "5f", "68 00 00 00 00", "6a 00", "ff f0", "ff 30",
        "ff 35 00 00 02 00", "e8 00 00 00 00", "ff d0", "ff 15 00 00 02 00", "c3", "ff 20",
        "ff 25 00 00 02 00", "ff 24 24", "8b c0 ff 10"};
    for (String code : codes) {
      refused(code, BARRED, code.startsWith("8b") ? 2 : 0);
    }
    refused(MASK + "ff a0 00 00 02 00", BARRED, 3);
    refused(MASK + "ff b0 00 00 02 00", BARRED, 3);
    refused("ff e0", WILD, 0);
    passes("4f");
    refused("60", BEYOND, 0);
    passes("f4 99 90");
  }

  private static final String[] FOUR = {"01", "03", "39", "85", "87", "89", "8b"};

  /** "An i32 alone (without a third byte), v, with 131072 <= v, v + n <= 196608" */
  private static void numberAlone() {
    int[] places = {DATA - 1, DATA, DATA + 1, END - 5, END - 4, END - 3, END - 1, END, 0, 127, -1,
        Integer.MIN_VALUE, Integer.MAX_VALUE, DATA + Integer.MIN_VALUE};
    for (int v : places) {
      boolean four = v >= DATA && v <= END - 4;
      boolean one = v >= DATA && v <= END - 1;
      for (String opcode : FOUR) {
        confined(opcode + " 0d " + word(v), four, LOOSE, 0);
      }
      confined("81 0d " + word(v) + "01 00 00 00", four, LOOSE, 0);
      confined("83 3d " + word(v) + "01", four, LOOSE, 0);
      confined("c7 05 " + word(v) + "01 00 00 00", four, LOOSE, 0);
      confined("f7 25 " + word(v), four, LOOSE, 0);
      confined("d3 25 " + word(v), four, LOOSE, 0);
      confined("ff 05 " + word(v), four, LOOSE, 0);
      confined("0f af 05 " + word(v), four, LOOSE, 0);
      confined("0f 44 05 " + word(v), four, LOOSE, 0);
      confined("88 0d " + word(v), one, LOOSE, 0);
      confined("8a 0d " + word(v), one, LOOSE, 0);
      confined("c6 05 " + word(v) + "01", one, LOOSE, 0);
      confined("0f b6 05 " + word(v), one, LOOSE, 0);
      confined("0f be 05 " + word(v), one, LOOSE, 0);
      confined("0f 94 05 " + word(v), one, LOOSE, 0);
      passes("8d 0d " + word(v));
      refused("8b 0c 25 " + word(v), LOOSE, 0);
    }
  }

  /** "A register .. that has a MASK k, and .. v more, with 131072 <= v and k + v + n <= 196608" */
  private static void registerWithMask() {
    int[][] rows = {{0, DATA}, {0, DATA - 1}, {0, END - 4}, {0, END - 3}, {0, END - 1}, {0, END},
        {1, END - 5}, {1, END - 4}, {1, END - 2}, {1, END - 1}, {65532, DATA}, {65532, DATA + 1},
        {65533, DATA}, {65535, DATA}, {65535, DATA + 1}, {65535, DATA - 1}, {65534, DATA + 1},
        {127, END - 131}, {127, END - 130}, {127, END - 128}, {127, END - 127}, {65535, -1},
        {65535, Integer.MAX_VALUE}, {65535, Integer.MIN_VALUE}, {0, Integer.MAX_VALUE}, {0, 0}};
    for (int[] row : rows) {
      int k = row[0];
      int v = row[1];
      long sum = (long) k + v;
      String mask = "81 e0 " + word(k);
      confined(mask + "8b 88 " + word(v), v >= DATA && sum + 4 <= END, LOOSE, 6);
      confined(mask + "89 88 " + word(v), v >= DATA && sum + 4 <= END, LOOSE, 6);
      confined(mask + "8a 88 " + word(v), v >= DATA && sum + 1 <= END, LOOSE, 6);
      confined(mask + "0f b6 88 " + word(v), v >= DATA && sum + 1 <= END, LOOSE, 6);
      passes(mask + "8d 88 " + word(v));
    }
    // An i8, no number at all, a third byte: none of them is CONFINED.
    refused(MASK + "8b 40 7f", LOOSE, 3);
    refused(MASK + "8b 40 80", LOOSE, 3);
    refused(MASK + "8b 00", LOOSE, 3);
    refused(MASK + "8b 84 20 00 00 02 00", LOOSE, 3);
    refused(MASK + "8b 04 05 00 00 02 00", LOOSE, 3);
    refused(NEEDS, LOOSE, 0);
    refused("83 e4 7f 8b 84 24 00 00 02 00", LOOSE, 3);
  }

  /** "An and (81 /4 or 83 /4) of a register with a number 0 .. 65535" */
  private static void maskNumbers() {
    for (int k : new int[] {0, 1, 127, 128, 65535, 65536, -1, -128, Integer.MIN_VALUE}) {
      boolean fine = k >= 0 && k <= 65535;
      confined("81 e0 " + word(k) + "8a 88 00 00 02 00", fine, LOOSE, 6);
    }
    for (int k = 0; k < 256; k++) {
      confined(String.format("83 e0 %02x ", k) + NEEDS, k < 128, LOOSE, 3);
    }
    // A number beyond takes the MASK that was; a second one is the MASK.
    refused(MASK + "81 e0 00 00 01 00" + NEEDS, LOOSE, 9);
    refused(MASK + "83 e0 ff" + NEEDS, LOOSE, 6);
    refused("83 e0 00 81 e0 fd ff 00 00" + NEEDS, LOOSE, 9);
    passes("81 e0 fd ff 00 00 83 e0 00" + NEEDS);
    // None of these is such an and.
    refused("21 c8" + NEEDS, LOOSE, 2);
    refused("23 c1" + NEEDS, LOOSE, 2);
    refused("81 c8 7f 00 00 00" + NEEDS, LOOSE, 6);
    refused("83 c0 00" + NEEDS, LOOSE, 3);
    refused("b8 00 00 00 00" + NEEDS, LOOSE, 5);
    refused("83 25 00 00 02 00 7f" + NEEDS, LOOSE, 7);
  }

  /** What an instruction ahead has does not stand for what this one has not. */
  private static void nothingOfTheOneAhead() {
    String third = "8d 8c 20 00 00 02 00 ";
    passes(third + MASK + NEEDS);
    passes("8d 0c 25 00 00 02 00 " + MASK + NEEDS);
    refused("8d 88 00 00 02 00 " + MASK + "8b 08", LOOSE, 9);
    refused("8b 0d 00 00 02 00 " + MASK + "8b 08", LOOSE, 9);
    refused("81 c1 00 00 02 00 " + MASK + "8b 48 00", LOOSE, 9);
    refused("88 0d 00 00 02 00 8b 0d fe ff 02 00", LOOSE, 6);
    refused("0f b6 0d ff ff 02 00 ff 05 fd ff 02 00", LOOSE, 7);
    passes("8b 0d 00 00 02 00 88 0d ff ff 02 00");
    refused("eb 00 ff 20", BARRED, 2);
    passes("81 c1 00 00 00 7f 90 99 42 f4");
  }

  private static void maskIsOfItsRegister() {
    for (int r = 0; r < 8; r++) {
      for (int b = 0; b < 8; b++) {
        if (b != 4) {
          String code = String.format("83 %02x 7f 8b %02x 00 00 02 00", 0xE0 + r, 0x80 + b);
          confined(code, r == b, LOOSE, 3);
        }
      }
    }
    passes("83 e0 7f 83 e3 7f 8b 8b 00 00 02 00 " + NEEDS);
  }

  /** "Or an instruction that writes it (in part, too; .. whatever comes of them; ..)" */
  private static void maskUntilItIsWritten() {
    String[] writers = {"01 c8", "03 c1", "09 c8", "0b c1", "11 c8", "13 c1", "19 c8", "1b c1",
        "21 c8", "23 c1", "29 c8", "2b c1", "31 c8", "33 c1", "81 c0 00 00 00 00", "83 c8 00",
        "83 d0 00", "83 d8 00", "83 e8 00", "83 f0 00", "40", "48", "ff c0", "ff c8", "f7 d0",
        "f7 d8", "f7 e1", "f7 e9", "f7 f1", "f7 f9", "f7 25 00 00 02 00", "f7 35 00 00 02 00",
        "0f af c1", "0f af c0", "c1 e0 00", "c1 c0 20", "d1 e8", "d3 f8", "d3 c8", "0f c8", "89 c8",
        "89 c0", "8b c1", "8b 05 00 00 02 00", "88 c8", "88 cc", "8a c1", "8a e1", "b8 00 00 00 00",
        "c7 c0 00 00 00 00", "c6 c0 00", "c6 c4 00", "87 c1", "87 c8", "87 c0", "8d 05 00 00 00 00",
        "8d 41 00", "0f b6 c1", "0f be c1", "0f 40 c1", "0f 4f c0", "0f 90 c0", "0f 9f c4",
        "87 05 00 00 02 00"};
    for (String writer : writers) {
      int size = 3 + Dues.hex(writer).length;
      refused(MASK + writer + NEEDS, LOOSE, size);
      passes(MASK + writer + MASK + NEEDS);
    }
    String edx = "83 e2 7f ";
    String needs = "8b 92 00 00 02 00 ";
    for (String writer : new String[] {"f7 e1", "f7 e9", "f7 f1", "f7 f9", "99", "0f ca", "42",
        "88 ca", "88 ce", "8a f1", "87 d1", "87 ca", "d3 fa"}) {
      refused(edx + writer + needs, LOOSE, 3 + Dues.hex(writer).length);
    }
    // The byte registers 4 to 7 are parts of eax, ecx, edx, ebx.
    String[] registers = {"e0", "e1", "e2", "e3"};
    for (int r = 0; r < 4; r++) {
      String mask = "83 " + registers[r] + " 7f ";
      String need = String.format("8b %02x 00 00 02 00", 0x80 + r);
      for (int part = 0; part < 8; part++) {
        int place = part % 4 == r ? 6 : -1;
        refused(mask + String.format("c6 %02x 01", 0xC0 + part) + need, place < 0 ? 0 : LOOSE, place);
        String set = String.format("0f 94 %02x", 0xC0 + part);
        refused(mask + set + need, place < 0 ? 0 : LOOSE, place);
      }
    }
    for (int r = 5; r < 8; r++) {
      passes(String.format("83 %02x 7f c6 %02x 01 8b %02x 00 00 02 00", 0xE0 + r, 0xC0 + r, 0x80 + r));
    }
    // A read through the MASK takes it, when it writes that register.
    refused(MASK + NEEDS + NEEDS, LOOSE, 9);
    passes(MASK + "8b 88 00 00 02 00" + NEEDS);
  }

  private static void maskStaysWhereNothingIsWritten() {
    String[] others = {"39 c8", "3b c1", "81 f8 00 00 00 00", "83 f8 00", "85 c0", "f7 c0 01 00 00 00",
        "0f a3 c8", "89 c1", "8b c8", "88 c1", "8a c8", "01 c1", "03 c8", "0f af c8", "0f b6 c8",
        "0f 44 c8", "90", "f4", "75 06", "70 7f", "eb 7f", "89 05 00 00 02 00", "01 05 00 00 02 00",
        "41", "99", "99 42", "d3 e1", "c1 e1 01", "0f c9", "0f 94 c1", "87 ca",
        "8d 08", "83 e1 01", "c6 05 00 00 02 00 01", "ff 05 00 00 02 00"};
    for (String other : others) {
      passes(MASK + other + NEEDS);
    }
    String ebx = "83 e3 7f ";
    for (String other : new String[] {"f7 e1", "f7 e9", "f7 f1", "f7 f9", "99", "87 c1"}) {
      passes(ebx + other + "8b 83 00 00 02 00");
    }
    // mul and div of M in memory write eax and edx alone; they read ecx.
    passes("83 e1 7f f7 a1 00 00 02 00 8b 81 00 00 02 00");
  }

  /** "Up to the end of the BUNDLE" */
  private static void maskUpToTheBundleEnd() {
    passes(nops(23) + MASK + NEEDS);
    refused(nops(24) + MASK + NEEDS, SPLIT, 27);
    refused(nops(26) + MASK + nops(3) + NEEDS, LOOSE, 32);
    refused(nops(29) + MASK + NEEDS, LOOSE, 32);
    passes(nops(32) + MASK + NEEDS);
    passes(MASK + nops(23) + NEEDS);
    refused(MASK + nops(29) + NEEDS, LOOSE, 32);
    refused(nops(32) + MASK + nops(29) + NEEDS, LOOSE, 64);
  }

  /** "The next GOAL (told away ahead of what stands there)"; "(one within an instruction ..)" */
  private static void maskUpToTheNextGoal() {
    // jcc at 9, 11 behind: a GOAL at 3 takes the MASK, at 0 it does not.
    passes(MASK + NEEDS + "75 f5");
    refused(MASK + NEEDS + "75 f8", LOOSE, 3);
    for (String jump : new String[] {"eb f8", "70 f8", "7f f8", "e9 f5 ff ff ff", "0f 85 f4 ff ff ff"}) {
      refused(MASK + NEEDS + jump, LOOSE, 3);
    }
    refused(MASK + "90" + NEEDS + "75 f7", LOOSE, 4);
    refused(MASK + "90" + NEEDS + "75 f8", LOOSE, 4);
    passes(MASK + "90" + NEEDS + "75 f4");
    passes(MASK + "90" + NEEDS + "75 fe");
    // Within an instruction: the MASK stays, the jmp itself is refused.
    refused(MASK + NEEDS + "75 f6", ASTRAY, 9);
    refused(MASK + NEEDS + "75 f9", ASTRAY, 9);
    refused(MASK + NEEDS + "75 fd", ASTRAY, 9);
    // GOALS that stand ahead, and one from another BUNDLE.
    refused("75 03" + MASK + NEEDS, LOOSE, 5);
    passes("75 00" + MASK + NEEDS);
    passes("75 09" + MASK + NEEDS);
    refused(MASK + NEEDS + nops(23) + "75 e1", LOOSE, 3);
    passes(MASK + NEEDS + nops(23) + "75 de");
    // A call, a jmp M have none.
    refused(MASK + NEEDS + "e8 f5 ff ff ff", BARRED, 9);
  }

  /** "Of all INSTRUCTIONS, also of refused ones" */
  private static void goalsOfRefusedOnes() {
    // The jne begins in one BUNDLE and ends in another: refused, but later than what it does.
    refused(MASK + NEEDS + nops(22) + "75 e2", LOOSE, 3);
    refused(MASK + NEEDS + "50 75 f7", LOOSE, 3);
    refused(MASK + NEEDS + "50 75 f4", BARRED, 9);
    refused(MASK + NEEDS + nops(22) + "75 df", SPLIT, 31);
  }

  /** "Right behind an add (81 /0) of 65536 to that, and this right behind an and (81 /4) .." */
  private static void jumpByRegister() {
    int[] numbers = {0, 1, 16, 31, 32, 33, 64, 65472, 65503, 65504, 65505, 65520, 65535, 65536, 131072,
        -32, -1, Integer.MIN_VALUE};
    for (int number : numbers) {
      boolean fine = number >= 0 && number <= 65504 && number % 32 == 0;
      confined("81 e1 " + word(number) + "81 c1 00 00 01 00 ff e1", fine, WILD, 12);
    }
    for (int number : new int[] {65535, 65537, 0, -65536, 131072, 65568}) {
      refused("81 e1 e0 ff 00 00 81 c1 " + word(number) + "ff e1", WILD, 12);
    }
    for (int one = 0; one < 8; one++) {
      for (int other = 0; other < 8; other++) {
        String and = String.format("81 %02x e0 ff 00 00 ", 0xE0 + one);
        String add = String.format("81 %02x 00 00 01 00 ", 0xC0 + one);
        confined(and + add + String.format("ff %02x", 0xE0 + other), one == other, WILD, 12);
        String otherAdd = String.format("81 %02x 00 00 01 00 ", 0xC0 + other);
        String jump = String.format("ff %02x", 0xE0 + other);
        confined(and + otherAdd + jump, one == other, WILD, 12);
      }
    }
    passes(GO);
    passes(GO + GO);
    refused("ff e1", WILD, 0);
    refused("81 c1 00 00 01 00 ff e1", WILD, 6);
    refused("81 e1 e0 ff 00 00 ff e1", WILD, 6);
    refused("81 e1 e0 ff 00 00 90 81 c1 00 00 01 00 ff e1", WILD, 13);
    refused("81 e1 e0 ff 00 00 81 c1 00 00 01 00 90 ff e1", WILD, 13);
    refused("81 c1 00 00 01 00 81 e1 e0 ff 00 00 ff e1", WILD, 12);
    refused("81 e1 e0 ff 00 00 81 c1 00 00 01 00 81 c1 00 00 01 00 ff e1", WILD, 18);
    refused("83 e1 60 81 c1 00 00 01 00 ff e1", WILD, 9);
    refused("81 e1 e0 ff 00 00 01 c1 ff e1", WILD, 8);
    refused("81 c9 e0 ff 00 00 81 c1 00 00 01 00 ff e1", WILD, 12);
    refused("81 e1 e0 ff 00 00 81 e9 00 00 01 00 ff e1", WILD, 12);
    refused(GO + "ff e1", WILD, 14);
    refused("81 25 00 00 02 00 e0 ff 00 00 81 c5 00 00 01 00 ff e5", WILD, 16);
  }

  /** "All three in one BUNDLE, no GOAL at the latter two" */
  private static void jumpInOneBundleWithoutGoals() {
    passes(nops(18) + GO);
    refused(nops(19) + GO, SPLIT, 31);
    refused(nops(20) + GO, WILD, 32);
    refused(nops(26) + GO, WILD, 38);
    passes(nops(32) + GO);
    // A jne behind, 16 from the and: a GOAL at the and is none at the latter two.
    passes(GO + "75 f0");
    refused(GO + "75 f6", WILD, 12);
    refused(GO + "75 fc", WILD, 12);
    refused(GO + "75 f5", ASTRAY, 14);
    refused("75 06" + GO, WILD, 14);
    refused("75 0c" + GO, WILD, 14);
    passes("75 00" + GO);
    passes("75 0e" + GO);
  }

  /** "Its GOAL is neither the beginning of an INSTRUCTION of the IMAGE nor .." */
  private static void goalsOfTheImage() {
    passes("eb fe");
    refused("eb fd", ASTRAY, 0);
    refused("eb ff", ASTRAY, 0);
    passes("90 eb fd");
    refused("90 eb fc", ASTRAY, 1);
    refused("eb 80", ASTRAY, 0);
    for (int at = 0; at <= 6; at++) {
      String jump = String.format("eb %02x b8 01 02 03 04 90", at);
      refused(jump, at == 0 || at >= 5 ? 0 : ASTRAY, at == 0 || at >= 5 ? -1 : 0);
    }
    // At a BUNDLE's beginning there need be no INSTRUCTION's.
    refused("eb 1e" + nops(29) + "b8 01 02 03 04", ASTRAY, 0);
    refused("eb 1d" + nops(29) + "b8 01 02 03 04", SPLIT, 31);
    refused("eb 1e" + nops(29) + "06 90", ASTRAY, 0);
    passes("eb 1e" + nops(29) + "90 90");
    for (int c = 0; c < 16; c++) {
      refused(String.format("%02x 01 b8 01 02 03 04", 0x70 + c), ASTRAY, 0);
      passes(String.format("%02x 05 b8 01 02 03 04", 0x70 + c));
      refused(String.format("0f %02x 01 00 00 00 b8 01 02 03 04", 0x80 + c), ASTRAY, 0);
      passes(String.format("0f %02x 05 00 00 00 b8 01 02 03 04", 0x80 + c));
    }
    refused("e9 " + word(Integer.MIN_VALUE), ASTRAY, 0);
    refused("e9 " + word(Integer.MAX_VALUE), ASTRAY, 0);
    refused("e9 " + word(-6), ASTRAY, 0);
    passes("e9 " + word(-5));
    refused("e9 " + word(-65541), ASTRAY, 0);
  }

  /** "Nor a place of CODE behind the IMAGE": right behind it, and CODE's last one. */
  private static void goalsBehindTheImage() {
    passes("eb 00");
    passes("eb 7f");
    passes("e9 " + word(65535 - 5));
    refused("e9 " + word(65536 - 5), ASTRAY, 0);
    passes("0f 85 " + word(65535 - 6));
    refused("0f 85 " + word(65536 - 6), ASTRAY, 0);
    passes(nops(3990) + "e9 " + word(65535 - 3995));
    refused(nops(3990) + "e9 " + word(65536 - 3995), ASTRAY, 3990);
    passes(nops(10) + "75 00");
    passes(nops(10) + "75 01");
    refused(nops(10) + "75 01 06", BEYOND, 12);
    refused(nops(10) + "75 00 06", ASTRAY, 10);
    passes("75 01 90");
    passes("75 02 90");
  }

  /** "An instruction is refused, for the first reason of these"; "the first instruction" */
  private static void firstReasonAndFirstInstruction() {
    refused(nops(31) + "06 06", BEYOND, 31);
    refused(nops(31) + "e8 00 00 00", BEYOND, 31);
    refused(nops(31) + "e8 00 00 00 00", SPLIT, 31);
    refused(nops(31) + "ff 20", SPLIT, 31);
    refused(nops(31) + "8b 00", SPLIT, 31);
    refused(nops(31) + "ff e0", SPLIT, 31);
    refused(nops(31) + "eb fe", SPLIT, 31);
    refused("ff 30", BARRED, 0);
    refused("ff 20", BARRED, 0);
    refused("ff 10", BARRED, 0);
    refused("8b 00 ff e0", LOOSE, 0);
    refused("ff e0 8b 00", WILD, 0);
    refused("eb 50 50", BARRED, 2);
    refused("75 80 50", ASTRAY, 0);
    refused("50 06", BARRED, 0);
    refused("8b 00 06", LOOSE, 0);
    refused("90 50 8b 00 06", BARRED, 1);
  }

  /** The CHECK is of the PROCESSOR's IMAGE as it is, whatever has been run or put. */
  private static void checkAfterOtherCalls() {
    MatchHouse house = new MatchHouse();
    Dues.code(house, "43 50");
    due("check(1)", house.check(1), 1);
    house.run(5);
    house.put(4, 5);
    house.begin(1);
    due("check(1) stays", house.check(1), 1);
    Dues.code(house, "50");
    due("check(1) of another", house.check(1), 0);
    Dues.grammar(house, "a=.;");
    due("check(1) behind grammar()", house.check(1), 0);
    house.arm(0, 9);
    due("check(0) behind arm()", house.check(0), 0);
    due("check(1) behind arm()", house.check(1), -1);
    Dues.code(house, "90 06");
    due("check(1) behind place()", house.check(1), 1);
    due("match", house.match(0, 9), -2);
    due("check(0) behind match()", house.check(0), 0);
    house.place();
    due("check(0) of none", house.check(0), 0);
    // Beginnings and GOALS of the one ahead are none of this one.
    Dues.code(house, nops(3) + "eb fe" + nops(40));
    due("check(0) of many", house.check(0), 0);
    Dues.code(house, "eb 01 b8 00 00 00 00");
    due("check(0) within one", house.check(0), ASTRAY);
    Dues.code(house, nops(3) + "eb fe");
    due("check(0) of a GOAL at 3", house.check(0), 0);
    Dues.code(house, MASK + NEEDS);
    due("check(0) without a GOAL", house.check(0), 0);
    Dues.code(house, NEEDS);
    due("check(0) without a MASK", house.check(0), LOOSE);
    Dues.code(house, GO.substring(0, 36));
    due("check(0) of and, add", house.check(0), 0);
    Dues.code(house, "ff e1");
    due("check(0) of jmp alone", house.check(0), WILD);
  }
}
