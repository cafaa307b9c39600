import java.util.Random;

/** Random code, run in step with the reference; promises 1, 16, 18 to 23. */
public final class ProcessorTest {
  private static final Dues DUES = new Dues("ProcessorTest");

  public static void main(String[] args) {
    int rounds = args.length > 0 ? Integer.parseInt(args[0]) : 30000;
    long seed = args.length > 1 ? Long.parseLong(args[1]) : 1;
    int[] stops = new int[6];
    MatchHouse house = new MatchHouse();
    fill(house, new Random(seed));
    grid(house);
    conditions(house);
    for (int k = 0; k < rounds && DUES.wrong() == 0; k++) {
      play(house, new Random(seed * 1000003 + k), stops);
    }
    for (int reason = 1; reason <= 5; reason++) {
      DUES.due("rounds with STOP " + reason + " seen", stops[reason] > 0, true);
    }
    System.out.println("stops: " + java.util.Arrays.toString(stops));
    DUES.finish();
  }

  private static final String[] FORMS = {"01 c8", "09 c8", "11 c8", "19 c8", "21 c8", "29 c8",
      "31 c8", "39 c8", "03 c1", "40", "48", "ff c0", "ff c8", "85 c8", "f7 d0", "f7 d8", "f7 e1",
      "f7 e9", "f7 f1", "f7 f9", "0f af c1", "c1 c0 05", "c1 c8 1f", "c1 e0 20", "c1 e8 01",
      "c1 f8 07", "d1 c0", "d1 c8", "d1 e0", "d1 e8", "d1 f8", "d3 c0", "d3 c8", "d3 e0", "d3 e8",
      "d3 f8", "0f a3 c8", "99", "0f c8", "0f b6 c4", "0f be c4", "0f be c1", "87 c1", "88 e1",
      "8a cc", "54", "5c", "0f 4c c1", "0f 9e c4", "83 d0 ff", "83 d8 00", "8d 44 88 80"};

  /** Each of some instructions on all pairs of numbers at which flags change. */
  private static void grid(MatchHouse house) {
    int[] numbers = {0, 1, 2, 3, 6, 15, 16, 31, 32, 127, 128, 255, 32768, 65536, 196600, 1 << 30,
        Integer.MAX_VALUE, Integer.MIN_VALUE, Integer.MIN_VALUE + 1, -2, -1, -16};
    for (String form : FORMS) {
      byte[] code = Dues.hex(form);
      Reference due = new Reference(code);
      Dues.tape(house, code);
      house.place();
      for (int a : numbers) {
        for (int b : numbers) {
          int edx = form.startsWith("f7 f9") ? a >> 31 : b > 3 ? 0 : 2;
          int[] all = {a, b, edx, 4, 131080, 5, 6, 7};
          for (int r = 0; r < 8; r++) {
            due.regs[r] = all[r];
            house.put(r, all[r]);
          }
          due.flags = (a ^ b) & 1;
          house.put(8, due.flags);
          due.eip = 65536;
          due.stop = 0;
          house.begin(0);
          for (int at = 4; at < 12; at++) {
            due.data[at] = (byte) (house.load(at));
          }
          String call = form + " of " + a + ", " + b;
          DUES.due(call, house.run(1), due.step() ? 1 : 0);
          compare(house, due, call);
          DUES.due(call + " pushed", house.load(4), due.read(131076, 4));
        }
      }
    }
  }

  /** All sixteen conditions with all FLAGS, in each instruction that has one. */
  private static void conditions(MatchHouse house) {
    String[] forms = {"0f %02x c1", "0f %02x c4", "%02x 05", "0f %02x 05 00 00 00"};
    int[] firsts = {0x40, 0x90, 0x70, 0x80};
    int[] bits = {1, 4, 16, 64, 128, 2048};
    for (int k = 0; k < 64 * forms.length; k++) {
      for (int c = 0; c < 16; c++) {
        byte[] code = Dues.hex(String.format(forms[k / 64], firsts[k / 64] + c));
        Reference due = new Reference(code);
        Dues.tape(house, code);
        house.place();
        for (int r = 0; r < 8; r++) {
          due.regs[r] = -5 - r;
          house.put(r, due.regs[r]);
        }
        for (int f = 0; f < 6; f++) {
          due.flags |= (k >> f & 1) != 0 ? bits[f] : 0;
        }
        house.put(8, due.flags);
        String call = "condition " + c + " of " + forms[k / 64] + " with " + due.flags;
        DUES.due(call, house.run(1), due.step() ? 1 : 0);
        compare(house, due, call);
      }
    }
  }

  /** No byte of DATA is 0 by chance, so that each one that is written too much shows. */
  private static void fill(MatchHouse house, Random random) {
    for (int at = 0; at < 65536; at += 4) {
      DUES.due("store", house.store(at, random.nextInt()), true);
    }
  }

  static byte[] randomCode(Random random, int most) {
    byte[] code = new byte[1 + random.nextInt(most)];
    for (int i = 0; i < code.length;) {
      byte[] one = new byte[16];
      addInstruction(one, 0, random);
      Reference.Code read = new Reference(one).decode(0);
      if (read.known() || random.nextInt(40) == 0) {
        System.arraycopy(one, 0, code, i, Math.min(read.size, code.length - i));
        i += read.size;
      }
    }
    return code;
  }

  private static final int[] ONE = {0x01, 0x03, 0x09, 0x0B, 0x11, 0x13, 0x19, 0x1B, 0x21, 0x23,
      0x29, 0x2B, 0x31, 0x33, 0x39, 0x3B, 0x81, 0x83, 0x40, 0x48, 0xFF, 0x85, 0xF7, 0xC1, 0xD1,
      0xD3, 0x99, 0x89, 0x8B, 0x88, 0x8A, 0xB8, 0xC7, 0xC6, 0x87, 0x8D, 0x90, 0x50, 0x58, 0x68,
      0x6A, 0xEB, 0x70, 0xE9, 0xE8, 0xC3, 0x0F, 0x0F, 0x0F, 0xF7, 0x81, 0x83};
  private static final int[] TWO = {0xAF, 0xA3, 0xC8, 0xB6, 0xBE, 0x40, 0x90, 0x80};

  private static int addInstruction(byte[] code, int start, Random random) {
    int i = start;
    int opcode = random.nextInt(40) == 0 ? random.nextInt(256) : ONE[random.nextInt(ONE.length)];
    if (opcode == 0x40 || opcode == 0x48 || opcode == 0x50 || opcode == 0x58 || opcode == 0xB8) {
      opcode += random.nextInt(8);
    }
    if (opcode == 0x70) {
      opcode += random.nextInt(16);
    }
    i = addByte(code, i, opcode);
    if (opcode == 0x0F) {
      int two = TWO[random.nextInt(TWO.length)];
      two += two == 0xC8 ? random.nextInt(8) : two < 0xA0 ? random.nextInt(16) : 0;
      i = addByte(code, i, random.nextInt(30) == 0 ? random.nextInt(256) : two);
    }
    int second = random.nextInt(256);
    second |= random.nextBoolean() ? 0xC0 : 0;
    boolean puts = opcode == 0x0F && (code[i - 1] & 0xF0) == 0x90;
    second &= puts || opcode == 0xC7 || opcode == 0xC6 ? ~0x38 : ~0;
    i = addByte(code, i, second);
    int more = random.nextInt(3) == 0 ? 0 : 1 + random.nextInt(5);
    if (random.nextInt(4) == 0) {
      int number = random.nextInt(3) == 0 ? 131072 + random.nextInt(65540) : random.nextInt(300) - 150;
      for (int k = 0; k < 4; k++) {
        i = addByte(code, i, number >> 8 * k);
      }
    } else {
      for (int k = 0; k < more; k++) {
        i = addByte(code, i, random.nextBoolean() ? random.nextInt(256) : random.nextInt(12));
      }
    }
    return i;
  }

  private static int addByte(byte[] code, int i, int v) {
    if (i < code.length) {
      code[i] = (byte) v;
    }
    return i + 1;
  }

  private static int value(Random random) {
    switch (random.nextInt(7)) {
      case 0: return random.nextInt();
      case 1: return random.nextInt(7) - 3;
      case 2: return Integer.MIN_VALUE + random.nextInt(5) - 2;
      case 3: return 196608 - random.nextInt(12);
      case 4: return 131072 + random.nextInt(12) - 4;
      default: return 131072 + random.nextInt(65536);
    }
  }

  private static void play(MatchHouse house, Random random, int[] stops) {
    byte[] code = randomCode(random, 60);
    Dues.tape(house, code);
    DUES.due("place()", house.place(), code.length);
    DUES.due("count(7)", house.count(7), code.length);
    DUES.due("eip after place()", house.get(9), 65536);
    DUES.due("stop after place()", house.get(10), 0);
    Reference due = new Reference(code);
    for (int r = 0; r < 8; r++) {
      due.regs[r] = value(random);
      DUES.due("put", house.put(r, due.regs[r]), true);
    }
    due.flags = random.nextInt() & 2261;
    DUES.due("put flags", house.put(8, due.flags | ~2261), true);
    for (int at = 0; at < 65536; at += 4) {
      due.data[at] = (byte) (house.load(at));
      due.data[at + 1] = (byte) (house.load(at) >> 8);
      due.data[at + 2] = (byte) (house.load(at) >> 16);
      due.data[at + 3] = (byte) (house.load(at) >> 24);
    }
    int start = random.nextInt(4) == 0 ? random.nextInt(code.length) : 0;
    house.begin(start);
    due.eip = 65536 + start;
    String told = hexOf(code);
    for (int k = 0; k < 40 && due.stop == 0 && DUES.wrong() == 0; k++) {
      String call = "step " + k + " of " + told;
      boolean made = due.step();
      DUES.due(call, house.run(1), made ? 1 : 0);
      compare(house, due, call);
    }
    stops[due.stop]++;
    if (random.nextInt(8) == 0) {
      for (int at = 0; at < 65533; at++) {
        DUES.due("load(" + at + ")", house.load(at), due.read(131072 + at, 4));
      }
    }
  }

  private static void compare(MatchHouse house, Reference due, String call) {
    for (int r = 0; r < 8; r++) {
      DUES.due(call + " register " + r, house.get(r), due.regs[r]);
    }
    DUES.due(call + " flags", house.get(8), due.flags);
    DUES.due(call + " eip", house.get(9), due.eip);
    DUES.due(call + " stop", house.get(10), due.stop);
  }

  static String hexOf(byte[] code) {
    StringBuilder text = new StringBuilder();
    for (byte b : code) {
      text.append(String.format("%02x ", b));
    }
    return text.toString();
  }
}
