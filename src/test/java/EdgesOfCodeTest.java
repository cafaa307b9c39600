/** The edges that Part V and promises 16, 18 to 23 name: of CODE, DATA, numbers, STOPS. */
public final class EdgesOfCodeTest {
  private static final Dues DUES = new Dues("EdgesOfCodeTest");
  private static final int MIN = Integer.MIN_VALUE;
  private static final int MAX = Integer.MAX_VALUE;
  private static final int DATA = 131072;
  private static final int END = 196608;
  private static final int C = 1;
  private static final int P = 4;
  private static final int A = 16;
  private static final int Z = 64;
  private static final int S = 128;
  private static final int O = 2048;
  private static final int ALL = 2261;
  private static final int EAX = 0;
  private static final int ECX = 1;
  private static final int EDX = 2;
  private static final int EBX = 3;
  private static final int ESP = 4;
  private static final int FLAGS = 8;
  private static final int EIP = 9;
  private static final int STOP = 10;

  public static void main(String[] args) {
    sumsWrapAround();
    stepsByOneWrapAround();
    placesWrapAround();
    eightBitNumbersHaveASign();
    shiftsByLowestFiveBits();
    shiftsByNoneLeaveFlags();
    shiftFlagsOfTheLast();
    registersInTheByte();
    byteRegisters();
    conditionsOfAllFlags();
    productsBeyond();
    bitByLowestFiveBits();
    nothingOfTheOneAhead();
    memoryOfFourBytes();
    memoryOfOneByte();
    memoryStopDoesNothing();
    readInAnyCase();
    stackAtDataEdges();
    fetchOutOfCode();
    unknownOneByte();
    unknownTwoBytes();
    unknownByN();
    unknownByMode();
    unknownAheadOfMemory();
    divideUnsigned();
    divideSigned();
    codeBehindTheImage();
    noStepAtAStop();
    stopComesWhenAStepIsTried();
    beginPlaces();
    refusedBeginChangesNothing();
    runNumbers();
    refusedRunChangesNothing();
    getOtherWhats();
    putFlags();
    refusedPutChangesNothing();
    storePlaces();
    refusedStoreChangesNothing();
    loadPlaces();
    DUES.finish();
  }

  private static void due(String what, long got, long want) {
    DUES.due(what, got, want);
  }

  private static void due(String what, boolean got, boolean want) {
    DUES.due(what, got, want);
  }

  /** Code on a new object; then pairs of what is put. */
  private static MatchHouse with(String code, int... puts) {
    MatchHouse house = new MatchHouse();
    Dues.code(house, code);
    for (int k = 0; k < puts.length; k += 2) {
      house.put(puts[k], puts[k + 1]);
    }
    return house;
  }

  /** One STEP; then pairs of what is got. */
  private static void step(String told, MatchHouse house, int... gets) {
    due(told + ": run(1)", house.run(1), 1);
    due(told + ": no STOP", house.get(STOP), 0);
    for (int k = 0; k < gets.length; k += 2) {
      due(told + ": get(" + gets[k] + ")", house.get(gets[k]), gets[k + 1]);
    }
  }

  private static void stops(String told, MatchHouse house, int reason) {
    int[] before = new int[10];
    for (int what = 0; what < 10; what++) {
      before[what] = house.get(what);
    }
    due(told + ": run(1)", house.run(1), 0);
    due(told + ": STOP", house.get(STOP), reason);
    for (int what = 0; what < 10; what++) {
      due(told + ": get(" + what + ") stays", house.get(what), before[what]);
    }
  }

  private static void two(String code, int a, int b, int flagsBefore, int result, int flags) {
    String told = code + " of " + a + ", " + b;
    step(told, with(code, EAX, a, ECX, b, FLAGS, flagsBefore), EAX, result, ECX, b, FLAGS, flags);
  }

  /** "C carried out, borrowed; A likewise ..; O if the sum with signs is beyond 32 bits." */
  private static void sumsWrapAround() {
    String add = "01 c8";
    two(add, -1, 1, 0, 0, C | A | Z | P);
    two(add, -2, 1, 0, -1, S | P);
    two(add, MAX, 1, 0, MIN, O | S | A | P);
    two(add, MAX - 1, 1, 0, MAX, P);
    two(add, MIN, -1, 0, MAX, C | O | P);
    two(add, MIN, MIN, 0, 0, C | O | Z | P);
    two(add, 15, 1, ALL, 16, A);
    two(add, 14, 1, ALL, 15, P);
    two(add, 0, 0, ALL, 0, Z | P);
    String adc = "11 c8";
    two(adc, -1, 0, C, 0, C | A | Z | P);
    two(adc, -1, 0, ALL & ~C, -1, S | P);
    two(adc, -1, -1, C, -1, C | A | S | P);
    two(adc, MAX, 0, C, MIN, O | S | A | P);
    two(adc, MIN, -1, C, MIN, C | A | S | P);
    two(adc, 15, 0, C, 16, A);
    String sub = "29 c8";
    two(sub, 0, 1, 0, -1, C | A | S | P);
    two(sub, 1, 1, ALL, 0, Z | P);
    two(sub, MIN, 1, 0, MAX, O | A | P);
    two(sub, MIN + 1, 1, 0, MIN, S | P);
    two(sub, MAX, -1, 0, MIN, C | O | S | P);
    two(sub, 16, 1, 0, 15, A | P);
    two(sub, 0, MIN, 0, MIN, C | O | S | P);
    String sbb = "19 c8";
    two(sbb, 0, 0, C, -1, C | A | S | P);
    two(sbb, 0, 0, ALL & ~C, 0, Z | P);
    two(sbb, 0, -1, C, 0, C | A | Z | P);
    two(sbb, -1, -1, C, -1, C | A | S | P);
    two(sbb, MIN, 0, C, MAX, O | A | P);
    two(sbb, 16, 0, C, 15, A | P);
    String cmp = "39 c8";
    two(cmp, 0, 1, 0, 0, C | A | S | P);
    two(cmp, MIN, 1, 0, MIN, O | A | P);
    two(cmp, 5, 5, ALL, 5, Z | P);
    String and = "21 c8";
    two(and, MIN, MIN, ALL, MIN, S | P);
    two(and, 1, 2, ALL, 0, Z | P);
    // "and, or, xor, test (and, nothing written): C, O, A 0."
    String[] forms = {"21 c8", "23 c1", "09 c8", "0b c1", "31 c8", "33 c1", "85 c8", "85 c1"};
    int[][] pairs = {{MIN, -1}, {0, 0}, {0x55AA, 0x0FF0}, {-1, -1}, {7, 8}};
    for (int k = 0; k < forms.length; k++) {
      for (int[] pair : pairs) {
        int a = pair[0];
        int b = pair[1];
        int result = k < 2 || k > 5 ? a & b : k < 4 ? a | b : a ^ b;
        int even = Integer.bitCount(result & 255) % 2 == 0 ? P : 0;
        int flags = even | (result == 0 ? Z : 0) | (result < 0 ? S : 0);
        two(forms[k], a, b, ALL, k > 5 ? a : result, flags);
      }
    }
    two("f7 c0 ff ff ff 7f", MIN, 0, ALL, MIN, Z | P);
    two("f7 c0 00 00 00 80", MIN, 0, ALL, MIN, S | P);
    two("81 c8 00 00 00 80", 1, 0, ALL, MIN + 1, S);
    two("81 f0 ff ff ff ff", -1, 0, ALL, 0, Z | P);
    two("83 f0 ff", 0, 0, ALL, -1, S | P);
    two("03 c1", -1, 1, 0, 0, C | A | Z | P);
    two("2b c1", 0, 1, 0, -1, C | A | S | P);
    two("3b c1", 0, 1, 0, 0, C | A | S | P);
    two("13 c1", -1, 0, C, 0, C | A | Z | P);
    two("1b c1", 0, 0, C, -1, C | A | S | P);
    String neg = "f7 d8";
    two(neg, 0, 9, ALL, 0, Z | P);
    two(neg, 1, 9, 0, -1, C | A | S | P);
    two(neg, MIN, 9, 0, MIN, C | O | S | P);
    two(neg, MIN + 1, 9, 0, MAX, C | A | P);
    two(neg, 16, 9, 0, -16, C | S | P);
  }

  /** "inc, dec as add, sub of 1, C stays." */
  private static void stepsByOneWrapAround() {
    for (int carry = 0; carry < 2; carry++) {
      for (String inc : new String[] {"40", "ff c0"}) {
        two(inc, -1, 0, carry, 0, A | Z | P | carry);
        two(inc, MAX, 0, carry, MIN, O | A | S | P | carry);
        two(inc, 0, 0, ALL & ~C | carry, 1, carry);
        two(inc, 15, 0, carry, 16, A | carry);
      }
      for (String dec : new String[] {"48", "ff c8"}) {
        two(dec, 0, 0, carry, -1, A | S | P | carry);
        two(dec, MIN, 0, carry, MAX, O | A | P | carry);
        two(dec, 1, 0, ALL & ~C | carry, 0, Z | P | carry);
        two(dec, 16, 0, carry, 15, A | P | carry);
      }
    }
  }

  /** "Sums are modulo 2 to the 32." */
  private static void placesWrapAround() {
    step("lea of -1 and 1", with("8d 80 01 00 00 00", EAX, -1), EAX, 0);
    step("lea of MAX and 1", with("8d 40 01", EAX, MAX, FLAGS, ALL), EAX, MIN, FLAGS, ALL);
    step("lea of 8 times", with("8d 04 c8", EAX, 7, ECX, 1 << 29), EAX, 7);
    step("lea of 8 times -1", with("8d 04 cd f8 ff ff ff", ECX, -1), EAX, -16);
    step("lea of 4 times MIN and more", with("8d 44 88 80", EAX, MIN, ECX, MIN), EAX, MIN - 128);
    String[] reads = {"8b 80 04 00 02 00", "8b 84 08 08 00 02 00", "8b 84 c8 00 00 02 00"};
    int[][] sums = {{-4, 0}, {-4, -4}, {8, (1 << 29) - 1}};
    for (int k = 0; k < reads.length; k++) {
      MatchHouse house = with(reads[k], EAX, sums[k][0], ECX, sums[k][1]);
      house.store(0, 0x11223355);
      step(reads[k], house, EAX, 0x11223355);
    }
    stops("not so far", with("8b 80 04 00 02 00", EAX, -5), 2);
    stops("half of all", with("8b 80 04 00 02 00", EAX, MIN), 2);
    // A jmp from the end of all numbers to their beginning, and back into CODE.
    step("jmp beyond MAX", with("e9 ff ff ff 7f"), EIP, MIN + 65540);
    stops("its FETCH", at(with("e9 ff ff ff 7f"), 1), 3);
    step("jmp to -1", with("e9 fa ff fe ff"), EIP, -1);
    step("jmp to 0", with("e9 fb ff fe ff"), EIP, 0);
    step("jmp all round", with("e9 fb ff ff ff"), EIP, 65536);
    step("esp from 0 on", with("58", ESP, END - 4), ESP, END);
    stops("push at 0", with("50", ESP, 0), 2);
    stops("push at 4", with("50", ESP, 4), 2);
    stops("push at MIN", with("50", ESP, MIN), 2);
  }

  private static MatchHouse at(MatchHouse house, int steps) {
    due("steps ahead", house.run(steps), steps);
    return house;
  }

  /** "i8 with its sign": 127 and -128. */
  private static void eightBitNumbersHaveASign() {
    step("add 127", with("83 c0 7f", EAX, 1), EAX, 128);
    step("add -128", with("83 c0 80", EAX, 1), EAX, -127);
    step("and -128", with("83 e0 80", EAX, -1), EAX, -128);
    step("and 127", with("83 e0 7f", EAX, -1), EAX, 127);
    step("lea 127", with("8d 40 7f", EAX, 1), EAX, 128);
    step("lea -128", with("8d 40 80", EAX, 1), EAX, -127);
    step("jmp 127", with("eb 7f"), EIP, 65536 + 2 + 127);
    step("jmp -128", with("eb 80"), EIP, 65536 + 2 - 128);
    step("jo 127", with("70 7f", FLAGS, O), EIP, 65536 + 2 + 127);
    step("jo -128", with("70 80", FLAGS, O), EIP, 65536 + 2 - 128);
    step("jo that is not taken", with("70 80", FLAGS, ALL & ~O), EIP, 65538);
    MatchHouse house = with("68 ff ff ff 7f 68 00 00 00 80", ESP, END);
    step("push MAX", house, ESP, END - 4);
    step("push MIN", house, ESP, END - 8);
    due("MAX", house.load(65532), MAX);
    due("MIN", house.load(65528), MIN);
    house = with("6a 7f 6a 80", ESP, END);
    step("push 127", house, ESP, END - 4);
    step("push -128", house, ESP, END - 8);
    due("127", house.load(65532), 127);
    due("-128", house.load(65528), -128);
    house = with("c6 00 80", EAX, DATA);
    house.store(0, 0x01010101);
    step("mov of one byte", house);
    due("one byte", house.load(0), 0x01010180);
    step("movsx 127", with("0f be c1", ECX, 127), EAX, 127);
    step("movsx 128", with("0f be c1", ECX, 128), EAX, -128);
    step("movzx 128", with("0f b6 c1", ECX, -128), EAX, 128);
    step("edx of MAX", with("99", EAX, MAX, EDX, 5), EDX, 0);
    step("edx of MIN", with("99", EAX, MIN, EDX, 5), EDX, -1);
    step("edx of 0", with("99", EAX, 0, EDX, 5), EDX, 0);
    step("edx of -1", with("99", EAX, -1, EDX, 5), EDX, -1);
  }

  private static int shifted(int n, int v, int by) {
    switch (n) {
      case 0: return Integer.rotateLeft(v, by);
      case 1: return Integer.rotateRight(v, by);
      case 4: return v << by;
      case 5: return v >>> by;
      default: return v >> by;
    }
  }

  /** "Shifts by n, the lowest five bits of the number" */
  private static void shiftsByLowestFiveBits() {
    for (int n : new int[] {0, 1, 4, 5, 7}) {
      int second = 0xC0 + 8 * n;
      for (int v : new int[] {0, 1, -1, MIN, MAX, 0x80000001, 0x12345678}) {
        for (int by : new int[] {0, 1, 2, 30, 31, 32, 33, 63, 64, 127, 128, 224, 255}) {
          String told = "shift " + n + " of " + v + " by " + by;
          String code = String.format("c1 %02x %02x", second, by);
          step(told, with(code, EAX, v), EAX, shifted(n, v, by & 31));
          code = String.format("d3 %02x", second);
          step(told + " in ecx", with(code, EAX, v, ECX, by), EAX, shifted(n, v, by & 31));
          step(told + " in ecx, and more", with(code, EAX, v, ECX, by - 256), EAX,
              shifted(n, v, by & 31));
        }
        step("shift by 1", with(String.format("d1 %02x", second), EAX, v), EAX, shifted(n, v, 1));
      }
    }
    step("of ecx by itself", with("d3 e1", ECX, 3), ECX, 24);
  }

  /** "None for 0, FLAGS stay." */
  private static void shiftsByNoneLeaveFlags() {
    for (int n : new int[] {0, 1, 4, 5, 7}) {
      for (int flags : new int[] {0, ALL, C, O, Z, S | P, A}) {
        for (int by : new int[] {0, 32, 224}) {
          String code = String.format("c1 %02x %02x", 0xC0 + 8 * n, by);
          step(code, with(code, EAX, 5, FLAGS, flags), EAX, 5, FLAGS, flags);
          code = String.format("d3 %02x", 0xC0 + 8 * n);
          step(code, with(code, EAX, 5, ECX, by, FLAGS, flags), EAX, 5, FLAGS, flags);
        }
      }
    }
  }

  private static void shift(int n, int v, int by, int before, int flags) {
    String code = String.format("c1 %02x %02x", 0xC0 + 8 * n, by);
    step(code + " of " + v, with(code, EAX, v, FLAGS, before), FLAGS, flags);
  }

  /** "As n shifts by 1, FLAGS as of the last one." */
  private static void shiftFlagsOfTheLast() {
    // shl: C the bit that goes out, O bit 31 of the result unlike C.
    shift(4, MIN, 1, 0, C | O | Z | P);
    shift(4, 1 << 30, 1, C, O | S | P);
    shift(4, 3 << 30, 1, A, C | S | P);
    shift(4, 1, 31, ALL, O | S | P);
    shift(4, 2, 31, 0, C | O | Z | P);
    shift(4, 3, 31, 0, C | S | P);
    shift(4, 4, 31, ALL, Z | P);
    shift(4, 0, 1, ALL, Z | P);
    shift(4, -1, 1, ALL, C | S);
    // shr: O bit 31 as it was before.
    shift(5, 1, 1, A, C | Z | P);
    shift(5, MIN, 1, 0, O | P);
    shift(5, MIN, 2, ALL, P);
    shift(5, MIN, 31, ALL, 0);
    shift(5, 1 << 30, 31, ALL, C | Z | P);
    shift(5, -1, 1, ALL, C | O | P);
    shift(5, 0, 1, ALL, Z | P);
    // sar: O 0.
    shift(7, MIN, 1, O, S | P);
    shift(7, -1, 31, O | A, C | S | P);
    shift(7, MAX, 31, O, C | Z | P);
    shift(7, 1 << 29, 31, ALL, Z | P);
    // rol: C bit 0 of the result, O that unlike its bit 31; others stay.
    shift(0, MIN, 1, 0, C | O);
    shift(0, 3 << 30, 1, ALL & ~C, ALL & ~O);
    shift(0, 1, 31, 0, O);
    shift(0, 1, 1, ALL, ALL & ~C & ~O);
    shift(0, 0, 1, ALL, ALL & ~C & ~O);
    shift(0, -1, 31, ALL, ALL & ~O);
    // ror: C bit 31 of the result, O that unlike its bit 30; others stay.
    shift(1, 1, 1, 0, C | O);
    shift(1, 3, 1, ALL & ~O & ~C, ALL);
    shift(1, MIN + 1, 1, ALL & ~C, ALL & ~O);
    shift(1, 1, 2, 0, O);
    shift(1, 2, 31, ALL, ALL & ~C & ~O);
    shift(1, 0, 31, ALL, ALL & ~C & ~O);
    shift(1, -1, 1, ALL & ~C, ALL & ~O);
  }

  /** "+r in the byte": from eax to edi. */
  private static void registersInTheByte() {
    for (int r = 0; r < 8; r++) {
      int v = 1000 * r + 1000;
      step("inc " + r, with(String.format("%02x", 0x40 + r), r, v), r, v + 1);
      step("dec " + r, with(String.format("%02x", 0x48 + r), r, v), r, v - 1);
      step("mov " + r, with(String.format("%02x 78 56 34 12", 0xB8 + r)), r, 0x12345678);
      step("turn " + r, with(String.format("0f %02x", 0xC8 + r), r, 0x80345779), r, 0x79573480);
      step("turn back " + r, with(String.format("0f %02x", 0xC8 + r), r, 0x79573480), r, 0x80345779);
      MatchHouse house = with(String.format("%02x", 0x50 + r), r, v, ESP, DATA + 8);
      step("push " + r, house, ESP, DATA + 4);
      due("pushed " + r, house.load(4), r == ESP ? DATA + 8 : v);
      house = with(String.format("%02x", 0x58 + r), ESP, DATA + 8);
      house.store(8, v);
      step("pop " + r, house, r, v, ESP, r == ESP ? v : DATA + 12);
      step("not " + r, with(String.format("f7 %02x", 0xD0 + r), r, v), r, ~v);
      step("mov to " + r, with(String.format("89 %02x", 0xC0 + r), EAX, v), r, v);
      step("mov of " + r, with(String.format("8b %02x", 0xC0 + r), r, v), EAX, v);
    }
  }

  /** "The lowest bytes of 0 .. 3 are the byte registers 0 .. 3, the bytes above those 4 .. 7" */
  private static void byteRegisters() {
    for (int b = 0; b < 8; b++) {
      int own = b & 3;
      int up = b < 4 ? 0 : 8;
      int put = 0x11223355 & ~(255 << up) | 0x80 << up;
      step("mov byte " + b, with(String.format("c6 %02x 80", 0xC0 + b), own, 0x11223355), own, put);
      step("set byte " + b, with(String.format("0f 91 %02x", 0xC0 + b), own, 0x11223355), own,
          0x11223355 & ~(255 << up) | 1 << up);
      int got = b < 4 ? 0x85 : 0x93;
      step("movzx byte " + b, with(String.format("0f b6 %02x", 0xE8 + b), own, 0x11229385), 5, got);
      step("movsx byte " + b, with(String.format("0f be %02x", 0xE8 + b), own, 0x11229385), 5,
          got - 256);
      MatchHouse house = with(String.format("88 %02x 04 00 02 00", 8 * b + 5), own, 0x11229385);
      step("mov of byte " + b, house);
      due("written of byte " + b, house.load(4), got);
      house = with(String.format("8a %02x 04 00 02 00", 8 * b + 5), own, 0x11223355);
      house.store(4, -128);
      step("mov to byte " + b, house, own, put);
    }
  }

  private static boolean holds(int c, int flags) {
    boolean o = (flags & O) != 0;
    boolean s = (flags & S) != 0;
    boolean z = (flags & Z) != 0;
    boolean[] even = {o, (flags & C) != 0, z, z || (flags & C) != 0, s, (flags & P) != 0, s != o,
        z || s != o};
    return even[c / 2] != (c % 2 != 0);
  }

  /** "c: 0 O, 2 C, .. 14 Z or S unlike O; an odd c: not what c - 1 is." */
  private static void conditionsOfAllFlags() {
    int[] bits = {C, P, A, Z, S, O};
    for (int k = 0; k < 64; k++) {
      int flags = 0;
      for (int f = 0; f < 6; f++) {
        flags |= (k >> f & 1) * bits[f];
      }
      for (int c = 0; c < 16; c++) {
        boolean on = holds(c, flags);
        // Another condition stands ahead, so that nothing of it stands for this one.
        String ahead = String.format("%02x 00 ", 0x70 + (c ^ 7));
        MatchHouse house = with(ahead + String.format("%02x 05", 0x70 + c), FLAGS, flags, ECX, 7);
        step("jmp if " + c, at(house, 1), EIP, on ? 65545 : 65540, FLAGS, flags);
        Dues.code(house, ahead + String.format("0f %02x 05 00 00 00", 0x80 + c));
        step("jmp if " + c + " by i32", at(house, 1), EIP, on ? 65549 : 65544, FLAGS, flags);
        Dues.code(house, ahead + String.format("0f %02x d9", 0x40 + c));
        step("mov if " + c, at(house, 1), EBX, on ? 7 : 0, FLAGS, flags);
        house.put(EAX, -1);
        Dues.code(house, ahead + String.format("0f %02x c0", 0x90 + c));
        step("byte if " + c, at(house, 1), EAX, on ? -255 : -256, FLAGS, flags);
      }
    }
  }

  /** "mul: .. C and O: edx is not 0; imul .. if it is not what its lowest 32 bits are .." */
  private static void productsBeyond() {
    int others = P | A | Z | S;
    int[][] mul = {{65535, 65537, -1, 0, 0}, {65536, 65536, 0, 1, 1}, {-1, 1, -1, 0, 0},
        {-1, 2, -2, 1, 1}, {-1, -1, 1, -2, 1}, {0, -1, 0, 0, 0}, {MIN, 2, 0, 1, 1}};
    for (int[] row : mul) {
      for (int before : new int[] {0, ALL}) {
        step("mul " + row[0] + ", " + row[1],
            with("f7 e1", EAX, row[0], ECX, row[1], EDX, 7, FLAGS, before), EAX, row[2], EDX,
            row[3], FLAGS, before & others | (row[4] == 1 ? C | O : 0));
      }
    }
    int[][] imul = {{MAX, 1, MAX, 0, 0}, {32768, 65536, MIN, 0, 1}, {-32768, 65536, MIN, -1, 0},
        {-1, -1, 1, 0, 0}, {MIN, -1, MIN, 0, 1}, {MIN, 1, MIN, -1, 0}, {MIN, 2, 0, -1, 1},
        {-32769, 65536, MAX - 65535, -1, 1}, {0, MIN, 0, 0, 0}, {65536, 65536, 0, 1, 1}};
    for (int[] row : imul) {
      for (int before : new int[] {0, ALL}) {
        int flags = before & others | (row[4] == 1 ? C | O : 0);
        String told = "imul " + row[0] + ", " + row[1];
        step(told, with("f7 e9", EAX, row[0], ECX, row[1], EDX, 7, FLAGS, before), EAX, row[2],
            EDX, row[3], FLAGS, flags);
        step(told + " of r", with("0f af c1", EAX, row[0], ECX, row[1], EDX, 7, FLAGS, before),
            EAX, row[2], EDX, 7, FLAGS, flags);
      }
    }
  }

  /** "C is the bit of M that the lowest five bits of r tell; others stay." */
  private static void bitByLowestFiveBits() {
    for (int bit : new int[] {0, 1, 30, 31}) {
      for (int more : new int[] {0, 32, 64, -32, MIN}) {
        for (int before : new int[] {0, ALL}) {
          String told = "bt " + bit + " and " + more;
          step(told, with("0f a3 c8", EAX, 1 << bit, ECX, bit + more, FLAGS, before), EAX,
              1 << bit, FLAGS, before | C);
          step(told + " not", with("0f a3 c8", EAX, ~(1 << bit), ECX, bit + more, FLAGS, before),
              FLAGS, before & ~C);
        }
      }
    }
  }

  private static final String[] FOUR = {"01 08", "03 08", "39 08", "81 00 01 00 00 00", "83 38 01",
      "ff 00", "ff 08", "85 08", "f7 00 01 00 00 00", "f7 10", "f7 18", "f7 20", "f7 28", "0f af 08",
      "c1 20 01", "c1 20 00", "d1 08", "d3 38", "89 08", "8b 08", "c7 00 01 00 00 00", "87 08",
      "0f 44 08", "ff 30", "ff 20", "ff 10"};
  private static final String[] ONE = {"88 08", "8a 08", "c6 00 01", "0f b6 08", "0f be 08",
      "0f 94 00", "0f 95 00"};

  private static void inDataAt(String code, int at, boolean fine) {
    MatchHouse house = with(code, EAX, at, ECX, 3, EDX, 5, ESP, DATA + 4096);
    String told = code + " at " + at;
    if (fine) {
      step(told, house);
    } else {
      stops(told, house, 2);
    }
  }

  /** What an instruction ahead has does not stand for what this one has not. */
  private static void nothingOfTheOneAhead() {
    MatchHouse house = with("8d 8c 58 04 00 00 00 8b 08 8b 15 00 00 02 00 8a 08 89 10", EAX, DATA);
    house.store(0, 0x55667788);
    house.store(4, 9);
    step("lea of all", house, ECX, DATA + 4);
    step("mov of a register alone", house, ECX, 0x55667788);
    step("mov of a number alone", house, EDX, 0x55667788);
    house.put(ECX, 0);
    step("mov of one byte", house, ECX, 0x88);
    house.put(EDX, -1);
    step("mov of four", house);
    due("four are written", house.load(0), -1);
    house = with("87 c8 87 0d 00 00 02 00", EAX, 5, ECX, 6);
    house.store(0, 7);
    step("xchg of registers", house, EAX, 6, ECX, 5);
    step("xchg of memory", house, ECX, 7);
    due("what was there", house.load(0), 5);
  }

  /** "2 MEMORY: a byte that is read or written is not in DATA": the first four, the last four. */
  private static void memoryOfFourBytes() {
    for (String code : FOUR) {
      inDataAt(code, DATA, true);
      inDataAt(code, END - 4, true);
      inDataAt(code, DATA + 1, true);
      int[] outside = {DATA - 1, DATA - 4, END - 3, END - 2, END - 1, END, 0, -1, -4, MIN, MAX,
          65536, DATA + MIN};
      for (int at : outside) {
        inDataAt(code, at, false);
      }
    }
    // DATA is 0 there: a DIVIDE, but where M can't be read a MEMORY.
    stops("div by DATA's first word", with("f7 30", EAX, DATA), 5);
    stops("div by what is ahead of it", with("f7 30", EAX, DATA - 1), 2);
    stops("idiv by DATA's last word", with("f7 38", EAX, END - 4), 5);
    stops("idiv by what is behind it", with("f7 38", EAX, END - 3), 2);
  }

  /** The first byte of DATA, and the last one. */
  private static void memoryOfOneByte() {
    for (String code : ONE) {
      inDataAt(code, DATA, true);
      inDataAt(code, END - 1, true);
      for (int at : new int[] {DATA - 1, END, 0, -1, MIN, MAX, 65536}) {
        inDataAt(code, at, false);
      }
    }
    MatchHouse house = with("88 08", EAX, END - 1, ECX, 0x77);
    step("the last byte", house);
    due("it is written", house.load(65532), 0x77000000);
    house = with("88 08", EAX, DATA, ECX, 0x77);
    step("the first byte", house);
    due("it alone is written", house.load(0), 0x77);
  }

  /** "STOPS, at which nothing of the instruction is done, and eip stays" */
  private static void memoryStopDoesNothing() {
    for (String code : FOUR) {
      MatchHouse house = with("90 " + code, EAX, END - 2, ECX, -1, EDX, 9, ESP, DATA + 4, FLAGS, ALL);
      house.store(65532, 0x12345678);
      house.store(0, 0x11111111);
      due("nop", house.run(1), 1);
      stops(code + " half in DATA", house, 2);
      due(code + ": eip", house.get(EIP), 65537);
      due(code + ": the last word stays", house.load(65532), 0x12345678);
      due(code + ": the first word stays", house.load(0), 0x11111111);
    }
    // What would be read is in DATA, what would be written is not: nothing goes.
    MatchHouse house = with("ff 30", EAX, DATA, ESP, DATA + 3);
    stops("push M at DATA's edge", house, 2);
    stops("call M at DATA's edge", with("ff 10", EAX, DATA, ESP, DATA + 3), 2);
    stops("call at DATA's edge", with("e8 00 00 00 00", ESP, DATA + 3), 2);
    stops("ret at DATA's edge", with("c3", ESP, END - 3), 2);
    stops("pop esp at DATA's edge", with("5c", ESP, END - 3), 2);
  }

  /** "mov if c reads M in any case" */
  private static void readInAnyCase() {
    for (int c = 0; c < 16; c++) {
      String code = String.format("0f %02x 08", 0x40 + c);
      for (int flags : new int[] {0, ALL, S, O}) {
        stops(code + " with " + flags, with(code, EAX, DATA - 1, FLAGS, flags), 2);
        stops(code + " with " + flags, with(code, EAX, END - 3, FLAGS, flags), 2);
        step(code + " with " + flags, with(code, EAX, END - 4, FLAGS, flags));
      }
    }
    // lea reads nothing.
    step("lea out of DATA", with("8d 08", EAX, DATA - 1), ECX, DATA - 1);
    step("lea of 0", with("8d 0d 00 00 00 00"), ECX, 0);
  }

  /** push, pop, call, ret at the first and the last word of DATA, and beyond. */
  private static void stackAtDataEdges() {
    String[] pushes = {"50", "68 01 00 00 00", "6a 01", "ff f0", "e8 00 00 00 00", "ff d0"};
    for (String push : pushes) {
      step(push + " on the first word", with(push, ESP, DATA + 4), ESP, DATA);
      step(push + " on the last word", with(push, ESP, END), ESP, END - 4);
      for (int esp : new int[] {DATA + 3, DATA, END + 1, END + 4, 0, 3, 4, -1, MIN, MIN + 3}) {
        stops(push + " at " + esp, with(push, ESP, esp), 2);
      }
    }
    for (String pop : new String[] {"58", "5d", "c3"}) {
      step(pop + " of the first word", with(pop, ESP, DATA), ESP, DATA + 4);
      step(pop + " of the last word", with(pop, ESP, END - 4), ESP, END);
      for (int esp : new int[] {DATA - 1, DATA - 4, END - 3, END, 0, -1, -4, MIN, MAX}) {
        stops(pop + " at " + esp, with(pop, ESP, esp), 2);
      }
    }
    // "call pushes the place behind"; with registers as they were.
    MatchHouse house = with("e8 05 00 00 00 90", ESP, END);
    step("call", house, ESP, END - 4, EIP, 65546);
    due("the place behind call", house.load(65532), 65541);
    house = with("ff d4", ESP, END);
    step("call esp", house, ESP, END - 4, EIP, END);
    due("the place behind call esp", house.load(65532), 65538);
    house = with("ff 54 24 fc", ESP, END);
    house.store(65532, 65600);
    step("call [esp-4]", house, ESP, END - 4, EIP, 65600);
    due("the place behind call [esp-4]", house.load(65532), 65540);
    house = with("c3", ESP, END - 4);
    house.store(65532, 65600);
    step("ret", house, ESP, END, EIP, 65600);
    // "push: esp falls by 4, and it is written there"; "pop esp: it is what was read"
    house = with("54 5c", ESP, END);
    step("push esp", house, ESP, END - 4);
    due("as it was", house.load(65532), END);
    step("pop esp", house, ESP, END);
    house = with("ff 74 24 fc", ESP, END);
    house.store(65528, 5);
    house.store(65532, 7);
    step("push [esp-4], with registers as they were", house, ESP, END - 4);
    due("what was there is written there", house.load(65532), 7);
  }

  /** "3 FETCH: eip is not in CODE": its first byte and its last one are. */
  private static void fetchOutOfCode() {
    int[] outside = {65535, 131072, 0, -1, MIN, MAX, 131073, 65536 + MIN};
    for (int at : outside) {
      MatchHouse house = with("ff e0", EAX, at);
      step("jmp to " + at, house, EIP, at);
      stops("FETCH at " + at, house, 3);
      due("eip of FETCH", house.get(EIP), at);
      house = with("c3", ESP, DATA);
      house.store(0, at);
      step("ret to " + at, house, EIP, at);
      stops("FETCH behind ret to " + at, house, 3);
    }
    MatchHouse house = with("ff e0", EAX, 65536);
    step("jmp to CODE's first", house, EIP, 65536);
    step("it is there", house, EIP, 65536);
    house = with("ff e0", EAX, 131071);
    step("jmp to CODE's last", house, EIP, 131071);
    stops("HLT at CODE's last", house, 1);
    house = with("e9 fb ff 00 00");
    step("jmp behind CODE's last", house, EIP, 131072);
    stops("FETCH behind it", house, 3);
    house = with("e9 fa ff 00 00");
    step("jmp to CODE's last by i32", house, EIP, 131071);
    stops("HLT there", house, 1);
    house = with("eb fd");
    step("jmp ahead of CODE's first", house, EIP, 65535);
    stops("FETCH there", house, 3);
  }

  private static boolean isOne(int opcode) {
    if (opcode < 64) {
      return opcode == 15 || opcode % 8 == 1 || opcode % 8 == 3;
    }
    if (opcode < 96 || opcode >= 0x70 && opcode < 0x80 || opcode >= 0xB8 && opcode < 0xC0) {
      return true;
    }
    String others = " 68 6a 81 83 85 87 88 89 8a 8b 8d 90 99 c1 c3 c6 c7 d1 d3 e8 e9 eb f4 f7 ff ";
    return others.contains(String.format(" %02x ", opcode));
  }

  private static boolean isTwo(int opcode) {
    if (opcode >= 0x40 && opcode < 0x50 || opcode >= 0x80 && opcode < 0xA0) {
      return true;
    }
    return opcode >= 0xC8 && opcode < 0xD0 || opcode == 0xA3 || opcode == 0xAF || opcode == 0xB6
        || opcode == 0xBE;
  }

  private static void known(String code, boolean known) {
    MatchHouse house = with(code, EAX, DATA + 8, ECX, 1, EDX, 0, ESP, DATA + 8);
    due("refused as UNKNOWN: " + code, house.check(0) == 1 && house.check(1) == 0, !known);
    house.store(8, 1);
    if (known) {
      step(code, house);
    } else {
      stops(code, house, 4);
    }
  }

  private static final String REST = " 00 00 00 00 00 00 00 00 00 00";

  /** "4 UNKNOWN: it is none of these": each first byte. */
  private static void unknownOneByte() {
    for (int opcode = 0; opcode < 256; opcode++) {
      if (opcode == 0xF4) {
        stops("HLT", with("f4"), 1);
      } else if (opcode == 0x8D) {
        known("8d 00" + REST, true);
      } else if (opcode != 15) {
        known(String.format("%02x c0", opcode) + REST, isOne(opcode));
      }
    }
  }

  /** Each second byte behind 0F. */
  private static void unknownTwoBytes() {
    for (int opcode = 0; opcode < 256; opcode++) {
      known(String.format("0f %02x c0", opcode) + REST, isTwo(opcode));
    }
  }

  /** "/n: n stands in place of r" */
  private static void unknownByN() {
    String[] opcodes = {"81", "83", "c1", "d1", "d3", "c6", "c7", "f7", "ff"};
    String[] ns = {"01234567", "01234567", "01457", "01457", "01457", "0", "0", "0234567", "01246"};
    for (int k = 0; k < opcodes.length; k++) {
      for (int n = 0; n < 8; n++) {
        boolean has = ns[k].contains("" + n);
        known(String.format("%s %02x", opcodes[k], 8 * n) + REST, has);
        known(String.format("%s %02x", opcodes[k], 0xC1 + 8 * n) + REST, has);
        known(String.format("%s %02x", opcodes[k], 0x40 + 8 * n) + REST, has);
        known(String.format("%s %02x", opcodes[k], 0x80 + 8 * n) + REST, has);
      }
    }
    for (int c = 0; c < 16; c++) {
      for (int n = 0; n < 8; n++) {
        known(String.format("0f %02x %02x", 0x90 + c, 0xC0 + 8 * n) + REST, n == 0);
        known(String.format("0f %02x %02x", 0x90 + c, 8 * n) + REST, n == 0);
      }
    }
  }

  /** "lea r, M (M not a register)", "bt M, r (M a register)" */
  private static void unknownByMode() {
    for (int second = 0; second < 256; second++) {
      boolean register = second >= 0xC0;
      String lea = String.format("8d %02x", second) + REST;
      String bt = String.format("0f a3 %02x", second) + REST;
      known(lea, !register);
      known(bt, register);
    }
  }

  /** What is UNKNOWN reads nothing: its STOP is 4 wherever its M is. */
  private static void unknownAheadOfMemory() {
    for (String code : new String[] {"f7 08", "ff 18", "ff 28", "ff 38", "c1 10 01", "d1 18", "d3 30",
        "c6 08 00", "c7 38 00 00 00 00", "0f a3 08", "0f 94 08"}) {
      stops(code, with(code, EAX, 0), 4);
    }
  }

  private static void divide(String code, int edx, int eax, int by, int... quotientAndRest) {
    String told = code + " of " + edx + ", " + eax + " by " + by;
    MatchHouse house = with(code, EDX, edx, EAX, eax, ECX, by, FLAGS, ALL & ~Z);
    if (quotientAndRest.length == 0) {
      stops(told, house, 5);
    } else {
      step(told, house, EAX, quotientAndRest[0], EDX, quotientAndRest[1], FLAGS, ALL & ~Z);
    }
  }

  /** "5 DIVIDE: by 0, or the quotient is beyond 32 bits (div without .. its sign)" */
  private static void divideUnsigned() {
    String div = "f7 f1";
    divide(div, 0, 0, 0);
    divide(div, 0, 5, 0);
    divide(div, -1, -1, 0);
    divide(div, 0, 0, 1, 0, 0);
    divide(div, 0, -1, 1, -1, 0);
    divide(div, 1, 0, 1);
    divide(div, 1, -1, 2, -1, 1);
    divide(div, 2, 0, 2);
    divide(div, -2, -1, -1, -1, -2);
    divide(div, -1, 0, -1);
    divide(div, MAX, -1, MIN, -1, MAX);
    divide(div, MIN, 0, MIN);
    divide(div, 0, 7, -1, 0, 7);
    divide(div, 0, -2, -1, 0, -2);
    divide(div, 0, -1, -1, 1, 0);
    divide(div, 4, 3, 5, -858993459, 2);
    divide(div, 5, 0, 5);
    stops("div of edx by itself", with("f7 f2", EDX, 3, EAX, 0), 5);
    step("div of eax by itself", with("f7 f0", EDX, 0, EAX, 9), EAX, 1, EDX, 0);
  }

  /** ".. idiv with its sign (towards 0)" */
  private static void divideSigned() {
    String idiv = "f7 f9";
    divide(idiv, 0, 0, 0);
    divide(idiv, -1, -1, 0);
    divide(idiv, 0, MAX, 1, MAX, 0);
    divide(idiv, 0, MIN, 1);
    divide(idiv, -1, MIN, 1, MIN, 0);
    divide(idiv, -1, MAX, 1);
    divide(idiv, 0, MAX, -1, -MAX, 0);
    divide(idiv, 0, MIN, -1, MIN, 0);
    divide(idiv, 0, MIN + 1, -1);
    divide(idiv, -1, MIN, -1);
    divide(idiv, -1, MIN + 1, -1, MAX, 0);
    divide(idiv, MIN, 0, -1);
    divide(idiv, MIN, 0, 1);
    divide(idiv, MIN, 0, MIN);
    divide(idiv, 0, -1, 2, MAX, 1);
    divide(idiv, 1, 0, 2);
    divide(idiv, -1, 0, 2, MIN, 0);
    divide(idiv, -2, -1, 2, MIN, -1);
    divide(idiv, -2, -2, 2);
    divide(idiv, 1, 0, -2, MIN, 0);
    divide(idiv, 1, 1, -2, MIN, 1);
    divide(idiv, 1, 2, -2);
    divide(idiv, 0, 7, 2, 3, 1);
    divide(idiv, -1, -7, 2, -3, -1);
    divide(idiv, 0, 7, -2, -3, 1);
    divide(idiv, -1, -7, -2, 3, -1);
    divide(idiv, 1 << 30, 0, MIN, MIN, 0);
    divide(idiv, (1 << 30) - 1, -1, MIN, -MAX, MAX);
    divide(idiv, 1 << 30, MAX, MIN, MIN, MAX);
    divide(idiv, 1 << 30, MIN, MIN);
  }

  /** "(bytes of the IMAGE, behind it 244)" */
  private static void codeBehindTheImage() {
    int row = 0xF4F4F4F4;
    step("mov, its i32 behind", with("b8"), EAX, row, EIP, 65541);
    step("mov, three of its i32 behind", with("b8 01"), EAX, 0xF4F4F401, EIP, 65541);
    step("mov, one of its i32 behind", with("b8 01 02 03"), EAX, 0xF4030201);
    step("mov, whole", with("b8 01 02 03 04"), EAX, 0x04030201);
    step("add, its i8 behind", with("83 c0"), EAX, -12);
    step("jmp, its i8 behind", with("eb"), EIP, 65526);
    step("mov esi, esp: the second byte behind", with("8b", ESP, 77), 6, 77);
    stops("0F, the second byte behind", with("0f"), 4);
    stops("FF, the second byte behind: push is FF /6", with("ff", ESP, 0), 2);
    step("lea, its i32 behind", with("8d 80", EAX, 1), EAX, row + 1);
    step("lea, its third byte behind: esi*8 + esp", with("8d 04", 6, 2, ESP, 3), EAX, 19);
    MatchHouse house = with("b8 00");
    step("mov at the end", house, EIP, 65541);
    stops("HLT behind", house, 1);
    due("check of it", house.check(0), 1);
    house = with("");
    for (int at : new int[] {0, 1, 4000, 61440, 65535}) {
      house.begin(at);
      stops("HLT at " + at, house, 1);
      due("eip", house.get(EIP), 65536 + at);
    }
  }

  /** "None when there is a STOP", of each kind; begin() and place() take it away. */
  private static void noStepAtAStop() {
    String[] codes = {"f4", "8b 00", "eb fd", "06", "f7 f0"};
    for (int k = 0; k < codes.length; k++) {
      MatchHouse house = with(codes[k]);
      int ahead = k == 2 ? 1 : 0;
      due("run of " + codes[k], house.run(9), ahead);
      due("STOP of " + codes[k], house.get(STOP), k + 1);
      int eip = house.get(EIP);
      house.put(EAX, DATA);
      house.put(ECX, 1);
      house.store(0, 1);
      due("run at the STOP", house.run(9), 0);
      due("run(0) at the STOP", house.run(0), 0);
      due("a run that is refused, at the STOP", house.run(-1), -1);
      due("the STOP stays", house.get(STOP), k + 1);
      due("eip stays", house.get(EIP), eip);
      due("begin", house.begin(0), true);
      due("no STOP behind begin()", house.get(STOP), 0);
      house.put(EAX, 0);
      house.run(9);
      due("the STOP again", house.get(STOP), k + 1);
      Dues.code(house, "43");
      due("no STOP behind place()", house.get(STOP), 0);
      due("eip behind place()", house.get(EIP), 65536);
      due("run behind place()", house.run(9), 1);
    }
    MatchHouse house = with("06");
    Dues.grammar(house, "a=;");
    house.run(1);
    due("STOP ahead of arm()", house.get(STOP), 4);
    house.arm(0, 1);
    due("no STOP behind arm()", house.get(STOP), 0);
  }

  /** "A STOP comes when a STEP is tried: behind the last one that was asked for none is" */
  private static void stopComesWhenAStepIsTried() {
    String[] codes = {"43 f4", "43 8b 00", "eb fd", "43 06", "43 f7 f0"};
    for (int k = 0; k < codes.length; k++) {
      MatchHouse house = with(codes[k]);
      due("run(0) of " + codes[k], house.run(0), 0);
      due("none is tried", house.get(STOP), 0);
      due("run(1)", house.run(1), 1);
      due("no STOP", house.get(STOP), 0);
      due("run(0) again", house.run(0), 0);
      due("no STOP again", house.get(STOP), 0);
      due("run(1) again", house.run(1), 0);
      due("the STOP", house.get(STOP), k + 1);
    }
  }

  /** "eip is place at of CODE (0 .. 65535), no STOP: true. False for another place." */
  private static void beginPlaces() {
    MatchHouse house = with("43 43 43");
    house.run(9);
    for (int at : new int[] {0, 1, 2, 3, 4, 61440, 65534, 65535}) {
      due("begin(" + at + ")", house.begin(at), true);
      due("eip of " + at, house.get(EIP), 65536 + at);
      due("no STOP of " + at, house.get(STOP), 0);
      due("run of " + at, house.run(9), Math.max(0, 3 - at));
      due("STOP of " + at, house.get(STOP), 1);
    }
    for (int at : new int[] {-1, 65536, 65537, 131071, MIN, MAX}) {
      due("begin(" + at + ")", house.begin(at), false);
      due("eip stays", house.get(EIP), 131071);
      due("the STOP stays", house.get(STOP), 1);
    }
  }

  private static void past(MatchHouse house) {
    Dues.grammar(house, "a={'x'}[yz]b?;b=[ab]+;");
    Dues.subject(house, "xya");
    house.match(0, 50);
    Dues.code(house, "43 01 c8 89 05 00 00 02 00 eb f4");
    for (int what = 0; what < 9; what++) {
      house.put(what, 0x01010101 * (what + 1));
    }
    house.store(0, 0x01020304);
    house.store(65532, -5);
    house.feed(1, 2, 3, 4, 5);
    house.begin(1);
    house.run(1);
  }

  private static void stoppedPast(MatchHouse house) {
    past(house);
    house.begin(2000);
    house.run(1);
  }

  private static void unchanged(String told, Shown.Deed refused) {
    Shown.unchanged(DUES, told, EdgesOfCodeTest::past, refused);
    Shown.unchanged(DUES, told + " at a STOP", EdgesOfCodeTest::stoppedPast, refused);
  }

  private static void refusedBeginChangesNothing() {
    for (int at : new int[] {-1, 65536, MIN, MAX}) {
      unchanged("begin(" + at + ")", house -> house.begin(at));
    }
  }

  /** "Up to n STEPS (0 .. 100000 ..): how many were made. NONE for another n." */
  private static void runNumbers() {
    MatchHouse house = with("43 eb fd");
    due("run(0)", house.run(0), 0);
    due("ebx", house.get(EBX), 0);
    due("run(1)", house.run(1), 1);
    due("run(99999)", house.run(99999), 99999);
    due("ebx", house.get(EBX), 50000);
    due("run(100000)", house.run(100000), 100000);
    due("ebx", house.get(EBX), 100000);
    for (int n : new int[] {-1, 100001, 300000, MIN, MAX}) {
      due("run(" + n + ")", house.run(n), -1);
      due("ebx stays", house.get(EBX), 100000);
    }
    due("eip", house.get(EIP), 65536);
  }

  private static void refusedRunChangesNothing() {
    for (int n : new int[] {-1, 100001, MIN, MAX}) {
      unchanged("run(" + n + ")", house -> house.run(n));
    }
    unchanged("run(0)", house -> house.run(0));
  }

  /** "0 .. 7 a register, 8 the FLAGS, 9 eip, 10 the STOP (0 none). 0 for another what." */
  private static void getOtherWhats() {
    MatchHouse house = with("06");
    for (int what = 0; what < 9; what++) {
      due("put(" + what + ")", house.put(what, -1 - what), true);
    }
    house.run(1);
    int[] dues = {-1, -2, -3, -4, -5, -6, -7, -8, -9 & ALL, 65536, 4};
    for (int what = 0; what < 11; what++) {
      due("get(" + what + ")", house.get(what), dues[what]);
    }
    for (int what : new int[] {-1, 11, 12, 1 << 29, MIN, MAX}) {
      due("get(" + what + ")", house.get(what), 0);
    }
  }

  /** "FLAGS (8) are those of v's bits that there are" */
  private static void putFlags() {
    MatchHouse house = new MatchHouse();
    for (int bit = 0; bit < 32; bit++) {
      due("put(8) of bit " + bit, house.put(8, 1 << bit), true);
      due("FLAGS of bit " + bit, house.get(8), ALL & 1 << bit);
      house.put(8, ~(1 << bit));
      due("FLAGS of all but bit " + bit, house.get(8), ALL & ~(1 << bit));
    }
    due("put(8, 0)", house.put(8, 0), true);
    due("no FLAGS", house.get(8), 0);
    for (int r = 0; r < 8; r++) {
      for (int v : new int[] {MIN, -1, 0, 1, MAX}) {
        due("put(" + r + ", " + v + ")", house.put(r, v), true);
        due("get(" + r + ")", house.get(r), v);
      }
    }
  }

  private static void refusedPutChangesNothing() {
    for (int what : new int[] {-1, 9, 10, 11, MIN, MAX}) {
      MatchHouse house = with("43");
      due("put(" + what + ")", house.put(what, 5), false);
      unchanged("put(" + what + ")", other -> other.put(what, 65540));
    }
  }

  /** "The four bytes of DATA from place at on (0 .. 65532) are v: true. False for another place." */
  private static void storePlaces() {
    MatchHouse house = new MatchHouse();
    for (int at : new int[] {0, 1, 2, 3, 4, 65528, 65529, 65531, 65532}) {
      for (int k = 0; k < 16; k += 4) {
        house.store(k, -1);
        house.store(65520 + k, -1);
      }
      due("store(" + at + ")", house.store(at, 0x04030201), true);
      due("load(" + at + ")", house.load(at), 0x04030201);
      if (at >= 4) {
        due("ahead of " + at, house.load(at - 4), -1);
      }
      if (at <= 65528) {
        due("behind " + at, house.load(at + 4), -1);
      }
    }
    for (int at : new int[] {-1, -4, 65533, 65534, 65535, 65536, 131072, MIN, MAX, MAX - 3}) {
      due("store(" + at + ")", house.store(at, 5), false);
    }
  }

  private static void refusedStoreChangesNothing() {
    for (int at : new int[] {-1, -4, 65533, 65536, 131072, MIN, MAX}) {
      unchanged("store(" + at + ")", house -> house.store(at, 0x55555555));
    }
  }

  /** "The four bytes of DATA from place at on; 0 when it is not 0 .. 65532." */
  private static void loadPlaces() {
    MatchHouse house = new MatchHouse();
    house.store(0, 0x44332211);
    house.store(65532, 0x88776655);
    due("load(0)", house.load(0), 0x44332211);
    due("load(1)", house.load(1), 0x00443322);
    due("load(3)", house.load(3), 0x00000044);
    due("load(4)", house.load(4), 0);
    due("load(65528)", house.load(65528), 0);
    due("load(65529)", house.load(65529), 0x55000000);
    due("load(65531)", house.load(65531), 0x77665500);
    due("load(65532)", house.load(65532), 0x88776655);
    for (int at : new int[] {-1, -3, 65533, 65535, 65536, 131072, MIN, MAX, MAX - 2}) {
      due("load(" + at + ")", house.load(at), 0);
    }
  }
}
