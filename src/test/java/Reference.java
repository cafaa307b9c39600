import java.util.Arrays;
import java.util.HashMap;
import java.util.List;
import java.util.Map;

/**
 * A second reading of Parts V and VI: instructions by a table of names and forms, flags bit by bit,
 * and the check by sets of places. Slow and plain.
 */
final class Reference {
  private static final String[] ARITHMETIC =
      {"add", "or", "adc", "sbb", "and", "sub", "xor", "cmp"};
  private static final Map<String, String> TABLE = new HashMap<>();

  static {
    for (int n = 0; n < 8; n++) {
      entry(8 * n + 1, ARITHMETIC[n] + " M,r");
      entry(8 * n + 3, ARITHMETIC[n] + " r,M");
      group(0x81, n, ARITHMETIC[n] + " M,i32");
      group(0x83, n, ARITHMETIC[n] + " M,i8");
      entry(0x40 + n, "inc o");
      entry(0x48 + n, "dec o");
      entry(0x50 + n, "push o");
      entry(0x58 + n, "pop o");
      entry(0xB8 + n, "mov o,i32");
      second(0xC8 + n, "bswap o");
    }
    group(0xFF, 0, "inc M");
    group(0xFF, 1, "dec M");
    group(0xFF, 2, "call M");
    group(0xFF, 4, "jmp M");
    group(0xFF, 6, "push M");
    entry(0x85, "test M,r");
    group(0xF7, 0, "test M,i32");
    String[] unary = {"", "", "not", "neg", "mul", "imul", "div", "idiv"};
    for (int n = 2; n < 8; n++) {
      group(0xF7, n, unary[n] + " M");
    }
    second(0xAF, "imul r,M");
    String[] shifts = {"rol", "ror", "", "", "shl", "shr", "", "sar"};
    for (int n : new int[] {0, 1, 4, 5, 7}) {
      group(0xC1, n, shifts[n] + " M,i8");
      group(0xD1, n, shifts[n] + " M,1");
      group(0xD3, n, shifts[n] + " M,ecx");
    }
    second(0xA3, "bt M,r");
    entry(0x99, "cdq");
    entry(0x89, "mov M,r");
    entry(0x8B, "mov r,M");
    entry(0x88, "mov8 M,r");
    entry(0x8A, "mov8 r,M");
    group(0xC7, 0, "mov M,i32");
    group(0xC6, 0, "mov8 M,i8");
    entry(0x87, "xchg M,r");
    entry(0x8D, "lea r,M");
    second(0xB6, "movzx r,M");
    second(0xBE, "movsx r,M");
    entry(0x90, "nop");
    entry(0xF4, "hlt");
    entry(0x68, "push i32");
    entry(0x6A, "push i8");
    entry(0xEB, "jmp i8");
    entry(0xE9, "jmp i32");
    entry(0xE8, "call i32");
    entry(0xC3, "ret");
    for (int c = 0; c < 16; c++) {
      second(0x40 + c, "cmov" + c + " r,M");
      second(0x80 + c, "j" + c + " i32");
      entry(0x70 + c, "j" + c + " i8");
      for (int n = 0; n < 1; n++) {
        TABLE.put("0f" + (0x90 + c) + "/" + n, "set" + c + " M");
      }
    }
  }

  private static void entry(int opcode, String what) {
    TABLE.put("" + opcode, what);
  }

  private static void group(int opcode, int n, String what) {
    TABLE.put(opcode + "/" + n, what);
  }

  private static void second(int opcode, String what) {
    TABLE.put("0f" + opcode, what);
  }

  /** One instruction as it stands in the bytes. */
  static final class Code {
    String name = "unknown";
    String form = "";
    String key = "";
    int size;
    int mode = 3;
    int r;
    int b;
    int base = -1;
    int index = -1;
    int times = 1;
    int more;
    boolean third;
    int number;

    boolean inMemory() {
      return form.contains("M") && mode != 3;
    }

    int width() {
      boolean small = name.equals("mov8") || name.equals("movzx") || name.equals("movsx")
          || name.startsWith("set");
      return small ? 1 : 4;
    }

    boolean known() {
      return !name.equals("unknown");
    }

    boolean jumpsByNumber() {
      return name.startsWith("j") && form.startsWith("i");
    }
  }

  final byte[] image;
  final byte[] data = new byte[65536];
  final int[] regs = new int[8];
  int flags = 0;
  int eip = 65536;
  int stop = 0;

  Reference(byte[] image) {
    this.image = image;
  }

  private int at;

  private int next() {
    int v = at < image.length ? image[at] & 255 : 244;
    at++;
    return v;
  }

  private int next32() {
    int v = 0;
    for (int k = 0; k < 4; k++) {
      v |= next() << 8 * k;
    }
    return v;
  }

  private int next8() {
    return (byte) next();
  }

  Code decode(int start) {
    at = start;
    Code code = new Code();
    int opcode = next();
    String key = "" + opcode;
    if (opcode == 15) {
      opcode = next();
      key = "0f" + opcode;
    }
    int ahead = at < image.length ? image[at] & 255 : 244;
    String what = TABLE.get(key);
    if (what == null) {
      key = key + "/" + (ahead >> 3 & 7);
      what = TABLE.get(key);
    }
    code.size = at - start;
    if (what == null) {
      return code;
    }
    String[] split = what.split(" ");
    code.form = split.length > 1 ? split[1] : "";
    code.key = key;
    if (code.form.startsWith("o")) {
      code.b = opcode & 7;
    }
    if (code.form.contains("M")) {
      decodeM(code);
    }
    if (code.form.endsWith("i32")) {
      code.number = next32();
    } else if (code.form.endsWith("i8")) {
      code.number = next8();
    }
    code.size = at - start;
    boolean wrong = split[0].equals("lea") && code.mode == 3 || split[0].equals("bt") && code.mode != 3;
    code.name = wrong ? "unknown" : split[0];
    return code;
  }

  private void decodeM(Code code) {
    int two = next();
    code.mode = two / 64;
    code.r = two / 8 % 8;
    code.b = two % 8;
    if (code.mode == 3) {
      return;
    }
    code.base = code.b;
    if (code.b == 4) {
      int three = next();
      code.third = true;
      code.times = 1 << three / 64;
      code.index = three / 8 % 8 == 4 ? -1 : three / 8 % 8;
      code.base = three % 8;
    }
    if (code.mode == 0 && code.base == 5) {
      code.base = -1;
      code.more = next32();
    }
    if (code.mode == 1) {
      code.more = next8();
    }
    if (code.mode == 2) {
      code.more = next32();
    }
  }

  // ---- running

  private static final class Stopped extends RuntimeException {
    private static final long serialVersionUID = 1;
    final int reason;

    Stopped(int reason) {
      this.reason = reason;
    }
  }

  boolean step() {
    if (stop != 0) {
      return false;
    }
    int[] before = regs.clone();
    int beforeFlags = flags;
    try {
      long place = eip - 65536L;
      if (place < 0 || place > 65535) {
        throw new Stopped(3);
      }
      Code code = decode((int) place);
      if (!code.known()) {
        throw new Stopped(4);
      }
      if (code.name.equals("hlt")) {
        throw new Stopped(1);
      }
      eip = execute(code, eip + code.size);
      return true;
    } catch (Stopped stopped) {
      System.arraycopy(before, 0, regs, 0, 8);
      flags = beforeFlags;
      stop = stopped.reason;
      return false;
    }
  }

  private int address(Code code) {
    long sum = code.more;
    sum += code.base < 0 ? 0 : regs[code.base];
    sum += code.index < 0 ? 0 : (long) regs[code.index] * code.times;
    return (int) sum;
  }

  private int where(int address, int width) {
    long place = (address & 0xFFFFFFFFL) - 131072;
    if (place < 0 || place + width > 65536) {
      throw new Stopped(2);
    }
    return (int) place;
  }

  int read(int address, int width) {
    int place = where(address, width);
    int v = 0;
    for (int k = 0; k < width; k++) {
      v |= (data[place + k] & 255) << 8 * k;
    }
    return v;
  }

  private void write(int address, int width, int v) {
    int place = where(address, width);
    for (int k = 0; k < width; k++) {
      data[place + k] = (byte) (v >> 8 * k);
    }
  }

  private int register(int r, int width) {
    if (width == 4) {
      return regs[r];
    }
    return regs[r % 4] >> (r / 4 * 8) & 255;
  }

  private void putRegister(int r, int width, int v) {
    if (width == 4) {
      regs[r] = v;
    } else {
      int up = r / 4 * 8;
      regs[r % 4] = regs[r % 4] & ~(255 << up) | (v & 255) << up;
    }
  }

  private int m(Code code) {
    return code.mode == 3 ? register(code.b, code.width()) : read(address(code), code.width());
  }

  private void putM(Code code, int v) {
    if (code.mode == 3) {
      putRegister(code.b, code.width(), v);
    } else {
      write(address(code), code.width(), v);
    }
  }

  private void flag(int bit, boolean on) {
    flags = on ? flags | bit : flags & ~bit;
  }

  private boolean has(int bit) {
    return (flags & bit) != 0;
  }

  private boolean holds(int c) {
    boolean[] all = {has(2048), has(1), has(64), has(1) || has(64), has(128), has(4),
        has(128) != has(2048), has(64) || has(128) != has(2048)};
    return c % 2 == 0 ? all[c / 2] : !all[c / 2];
  }

  private void zsp(int v) {
    flag(64, v == 0);
    flag(128, v >> 31 != 0);
    boolean even = true;
    for (int k = 0; k < 8; k++) {
      even ^= (v >> k & 1) != 0;
    }
    flag(4, even);
  }

  /** Carries from bit to bit; a difference is a sum with what is turned over. */
  private int ripple(int a, int b, int carry, boolean minus) {
    int c = minus ? 1 - carry : carry;
    int result = 0;
    boolean half = false;
    int into = 0;
    for (int k = 0; k < 32; k++) {
      int one = a >> k & 1;
      int two = (b >> k & 1) ^ (minus ? 1 : 0);
      into = c;
      result |= (one ^ two ^ c) << k;
      c = one + two + c > 1 ? 1 : 0;
      if (k == 3) {
        half = c != 0;
      }
    }
    flag(1, c != 0 != minus);
    flag(16, half != minus);
    flag(2048, c != into);
    zsp(result);
    return result;
  }

  private int calculate(String name, int a, int b) {
    int carry = flags & 1;
    switch (name) {
      case "add": return ripple(a, b, 0, false);
      case "adc": return ripple(a, b, carry, false);
      case "sub":
      case "cmp": return ripple(a, b, 0, true);
      case "sbb": return ripple(a, b, carry, true);
      default: break;
    }
    int v = name.equals("or") ? a | b : name.equals("xor") ? a ^ b : a & b;
    flags &= ~(1 | 16 | 2048);
    zsp(v);
    return v;
  }

  private int shifted(String name, int v, int by) {
    int result = v;
    for (int k = 0; k < by % 32; k++) {
      int was = result;
      int top = was >> 31 & 1;
      int low = was & 1;
      switch (name) {
        case "rol":
          result = was << 1 | top;
          flag(1, (result & 1) != 0);
          flag(2048, (result & 1) != (result >> 31 & 1));
          break;
        case "ror":
          result = was >>> 1 | low << 31;
          flag(1, result < 0);
          flag(2048, (result >> 31 & 1) != (result >> 30 & 1));
          break;
        case "shl":
          result = was * 2;
          flag(1, top != 0);
          flag(2048, (result >> 31 & 1) != top);
          break;
        case "shr":
          result = was >>> 1;
          flag(1, low != 0);
          flag(2048, top != 0);
          break;
        default:
          result = was >> 1;
          flag(1, low != 0);
          flag(2048, false);
          break;
      }
      if (!name.startsWith("ro")) {
        zsp(result);
        flag(16, false);
      }
    }
    return result;
  }

  private void wide(boolean on) {
    flag(1, on);
    flag(2048, on);
  }

  private void multiply(Code code) {
    int other = m(code);
    if (code.form.equals("r,M")) {
      long product = (long) regs[code.r] * other;
      regs[code.r] = (int) product;
      wide(product > Integer.MAX_VALUE || product < Integer.MIN_VALUE);
      return;
    }
    boolean signed = code.name.equals("imul");
    java.math.BigInteger product = number(regs[0], signed).multiply(number(other, signed));
    regs[0] = product.intValue();
    regs[2] = product.shiftRight(32).intValue();
    wide(signed ? product.bitLength() > 31 : regs[2] != 0);
  }

  private static java.math.BigInteger number(int v, boolean signed) {
    return java.math.BigInteger.valueOf(signed ? v : v & 0xFFFFFFFFL);
  }

  private void divide(Code code) {
    boolean signed = code.name.equals("idiv");
    java.math.BigInteger by = number(m(code), signed);
    if (by.signum() == 0) {
      throw new Stopped(5);
    }
    java.math.BigInteger whole = number(regs[2], signed).shiftLeft(32).add(number(regs[0], false));
    java.math.BigInteger[] both = whole.divideAndRemainder(by);
    if (both[0].bitLength() > (signed ? 31 : 32)) {
      throw new Stopped(5);
    }
    regs[0] = both[0].intValue();
    regs[2] = both[1].intValue();
  }

  private void push(int v) {
    write(regs[4] - 4, 4, v);
    regs[4] -= 4;
  }

  private int pop() {
    int v = read(regs[4], 4);
    regs[4] += 4;
    return v;
  }

  private int execute(Code code, int behind) {
    String name = code.name;
    if (name.startsWith("cmov")) {
      int v = m(code);
      regs[code.r] = holds(Integer.parseInt(name.substring(4))) ? v : regs[code.r];
      return behind;
    }
    if (name.startsWith("set")) {
      putM(code, holds(Integer.parseInt(name.substring(3))) ? 1 : 0);
      return behind;
    }
    if (name.startsWith("j") && !name.equals("jmp")) {
      return holds(Integer.parseInt(name.substring(1))) ? behind + code.number : behind;
    }
    if (Arrays.asList(ARITHMETIC).contains(name) || name.equals("test")) {
      boolean toR = code.form.equals("r,M");
      int a = toR ? regs[code.r] : m(code);
      int b = toR ? m(code) : code.form.equals("M,r") ? regs[code.r] : code.number;
      int v = calculate(name, a, b);
      if (!name.equals("cmp") && !name.equals("test")) {
        if (toR) {
          regs[code.r] = v;
        } else {
          putM(code, v);
        }
      }
      return behind;
    }
    return executeRest(code, behind);
  }

  private int executeRest(Code code, int behind) {
    String name = code.name;
    switch (name) {
      case "nop": return behind;
      case "inc":
      case "dec":
        int carry = flags & 1;
        int stepped = ripple(m(code), 1, 0, name.equals("dec"));
        flag(1, carry != 0);
        putM(code, stepped);
        return behind;
      case "not": putM(code, -1 - m(code)); return behind;
      case "neg": putM(code, ripple(0, m(code), 0, true)); return behind;
      case "mul":
      case "imul": multiply(code); return behind;
      case "div":
      case "idiv": divide(code); return behind;
      case "bt": flag(1, (m(code) >>> (regs[code.r] & 31)) % 2 != 0); return behind;
      case "cdq": regs[2] = regs[0] < 0 ? -1 : 0; return behind;
      case "bswap": regs[code.b] = Integer.reverseBytes(regs[code.b]); return behind;
      case "lea": regs[code.r] = address(code); return behind;
      case "movzx": regs[code.r] = m(code); return behind;
      case "movsx": regs[code.r] = (byte) m(code); return behind;
      case "mov":
      case "mov8": move(code); return behind;
      case "xchg":
        int was = m(code);
        int other = regs[code.r];
        putM(code, other);
        regs[code.r] = was;
        return behind;
      case "push": push(code.form.startsWith("i") ? code.number : m(code)); return behind;
      case "pop": regs[code.b] = pop(); return behind;
      case "jmp": return code.form.equals("M") ? m(code) : behind + code.number;
      case "call":
        int goal = code.form.equals("M") ? m(code) : behind + code.number;
        push(behind);
        return goal;
      case "ret": return pop();
      default:
        int by = code.form.equals("M,1") ? 1 : code.form.equals("M,ecx") ? regs[1] : code.number;
        putM(code, shifted(name, m(code), by & 31));
        return behind;
    }
  }

  private void move(Code code) {
    int width = code.width();
    switch (code.form) {
      case "r,M": putRegister(code.r, width, m(code)); break;
      case "M,r": putM(code, register(code.r, width)); break;
      default: putM(code, code.number); break;
    }
  }

  // ---- the check

  int reason = 0;
  int refusedAt = -1;

  void check() {
    Map<Integer, Code> instructions = new HashMap<>();
    boolean[] goals = new boolean[65536];
    for (int p = 0; p < image.length;) {
      Code code = decode(p);
      if (!code.known() || p + code.size > image.length) {
        break;
      }
      instructions.put(p, code);
      int goal = p + code.size + code.number;
      if (code.jumpsByNumber() && goal >= 0 && goal < 65536) {
        goals[goal] = true;
      }
      p += code.size;
    }
    int[] ahead = {-1, -1};
    for (int p = 0; p < image.length;) {
      Code code = instructions.get(p);
      reason = code == null ? 1 : reasonOf(code, p, instructions, goals, ahead);
      if (reason != 0) {
        refusedAt = p;
        return;
      }
      ahead[1] = ahead[0];
      ahead[0] = p;
      p += code.size;
    }
  }

  private int reasonOf(Code code, int p, Map<Integer, Code> all, boolean[] goals, int[] ahead) {
    if (p / 32 != (p + code.size - 1) / 32) {
      return 2;
    }
    boolean jumpM = code.name.equals("jmp") && code.form.equals("M");
    List<String> barred = Arrays.asList("push", "pop", "call", "ret");
    if (barred.contains(code.name) || jumpM && code.mode != 3) {
      return 3;
    }
    if (code.inMemory() && !code.name.equals("lea") && !confined(code, p, all, goals)) {
      return 4;
    }
    if (jumpM && !guarded(code, p, all, goals, ahead)) {
      return 5;
    }
    long goal = (int) (p + code.size + (long) code.number);
    if (code.jumpsByNumber() && !all.containsKey((int) goal)
        && (goal < image.length || goal > 65535)) {
      return 6;
    }
    return 0;
  }

  private boolean guarded(Code code, int p, Map<Integer, Code> all, boolean[] goals, int[] ahead) {
    if (ahead[1] < 0 || ahead[1] / 32 != p / 32 || goals[p] || goals[ahead[0]]) {
      return false;
    }
    Code and = all.get(ahead[1]);
    Code add = all.get(ahead[0]);
    boolean fits = and.key.equals("129/4") && and.mode == 3 && and.b == code.b && and.number >= 0
        && and.number <= 65504 && and.number % 32 == 0;
    return fits && add.key.equals("129/0") && add.mode == 3 && add.b == code.b
        && add.number == 65536;
  }

  private boolean confined(Code code, int p, Map<Integer, Code> all, boolean[] goals) {
    long v = code.more;
    int n = code.width();
    if (code.third || v < 131072) {
      return false;
    }
    if (code.base < 0) {
      return v + n <= 196608;
    }
    // The mask is looked for backwards: from the place to the bundle's begin.
    if (goals[p]) {
      return false;
    }
    for (int q = p - 1; q >= p / 32 * 32; q--) {
      Code earlier = all.get(q);
      if (earlier == null) {
        continue;
      }
      boolean and = earlier.key.equals("129/4") || earlier.key.equals("131/4");
      if (and && earlier.mode == 3 && earlier.b == code.base) {
        return earlier.number >= 0 && earlier.number <= 65535 && earlier.number + v + n <= 196608;
      }
      if (writes(earlier, code.base) || goals[q]) {
        return false;
      }
    }
    return false;
  }

  private static boolean writes(Code code, int register) {
    List<String> silent = Arrays.asList("cmp", "test", "bt", "nop", "hlt", "jmp");
    if (silent.contains(code.name) || code.jumpsByNumber()) {
      return false;
    }
    if (code.name.equals("cdq")) {
      return register == 2;
    }
    boolean pair = code.form.equals("M")
        && Arrays.asList("mul", "imul", "div", "idiv").contains(code.name);
    if (pair) {
      return register == 0 || register == 2;
    }
    boolean small = code.width() == 1;
    if (code.name.equals("xchg")) {
      return code.r == register || code.mode == 3 && code.b == register;
    }
    if (code.form.equals("r,M")) {
      return (code.name.equals("mov8") ? code.r % 4 : code.r) == register;
    }
    return code.mode == 3 && (small ? code.b % 4 : code.b) == register;
  }
}
