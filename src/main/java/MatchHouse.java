import java.util.Arrays;

/**
 * A house for grammars: a text of rules is judged, made to a program of a small machine, that to
 * the bytes of a processor's code, which is checked and run in a closed field of memory.
 */
public final class MatchHouse {
  public static final int NONE = -1;

  private static final int TAPE_LIMIT = 4000;
  private static final int STEP_LIMIT = 300000;
  private static final int RUN_LIMIT = 100000;
  private static final int STACK_LIMIT = 1000;
  private static final int FLAG_BITS = 2261;
  private static final int MALFORMED = 1;
  private static final int TOO_LARGE = 5;

  private final byte[] tape = new byte[TAPE_LIMIT];
  private int tapeLength = 0;
  private final byte[] subject = new byte[TAPE_LIMIT];
  private int subjectLength = 0;
  private int faultKind = NONE;
  private int faultPlace = NONE;
  private final Tree tree = new Tree();
  private final Reader reader = new Reader(tree);
  private final Judge judge = new Judge(tree);
  // A grammar is built in the spare one, so that a fault leaves the current one as it was.
  private Program current = new Program();
  private Program spare = new Program();
  private final Coder coder = new Coder(tree, spare);
  private final Assembler assembler = new Assembler(spare);
  private final Processor processor = new Processor();
  private final Checker checker = new Checker();
  private final Outcome outcome = new Outcome();

  public MatchHouse() {
  }

  public int feed(int a, int b, int c, int d, int e) {
    if (tapeLength > TAPE_LIMIT - 20) {
      return NONE;
    }
    addNumber(a);
    addNumber(b);
    addNumber(c);
    addNumber(d);
    addNumber(e);
    return tapeLength;
  }

  private void addNumber(int v) {
    for (int shift = 24; shift >= 0; shift -= 8) {
      tape[tapeLength] = (byte) (v >> shift);
      tapeLength++;
    }
  }

  public int end(int n) {
    if (n < 0 || n > tapeLength) {
      return NONE;
    }
    tapeLength = n;
    return n;
  }

  public int grammar() {
    int length = tapeLength;
    tapeLength = 0;
    if (!reader.readText(tape, length)) {
      return noteFault(MALFORMED, reader.faultAt);
    }
    int kind = judge.findKind(tape);
    if (kind != 0) {
      return noteFault(kind, judge.faultAt);
    }
    if (!coder.makeProgram(spare) || !assembler.makeCode(spare)) {
      return noteFault(TOO_LARGE, length);
    }
    noteFault(0, NONE);
    Program made = spare;
    spare = current;
    current = made;
    return current.rules;
  }

  private int noteFault(int kind, int at) {
    faultKind = kind;
    faultPlace = at;
    return NONE;
  }

  public int fault(int what) {
    if (what == 0) {
      return faultKind;
    }
    return what == 1 ? faultPlace : NONE;
  }

  public int count(int what) {
    switch (what) {
      case 0: return current.rules;
      case 1: return current.length;
      case 2: return current.setCount;
      case 3: return current.codeLength;
      case 4: return current.captures;
      case 5: return subjectLength;
      case 6: return tapeLength;
      case 7: return processor.codeLength;
      default: return NONE;
    }
  }

  public int rule(int k, int what) {
    if (k < 0 || k >= current.rules || what < 0 || what > 11) {
      return NONE;
    }
    if (what < 3) {
      return (current.ruleFacts[k] >> what) & 1;
    }
    return what == 3 ? current.ruleStart[k] : current.ruleFirst[8 * k + what - 4];
  }

  public int program(int i, int what) {
    if (i < 0 || i >= current.length) {
      return NONE;
    }
    switch (what) {
      case 0: return current.op[i];
      case 1: return current.arg[i];
      case 2: return current.target[i];
      case 3: return current.place[i];
      default: return NONE;
    }
  }

  public int set(int k, int w) {
    if (k < 0 || k >= current.setCount || w < 0 || w > 7) {
      return 0;
    }
    return current.sets[8 * k + w];
  }

  public int image(int i) {
    if (i < 0 || i >= current.codeLength) {
      return NONE;
    }
    return assembler.code[i] & 255;
  }

  public int subject() {
    System.arraycopy(tape, 0, subject, 0, tapeLength);
    subjectLength = tapeLength;
    tapeLength = 0;
    return subjectLength;
  }

  public boolean arm(int place, int stack) {
    boolean stackFits = stack >= 1 && stack <= STACK_LIMIT;
    if (current.rules == 0 || !stackFits || place < 0 || place > subjectLength) {
      return false;
    }
    processor.takeCode(assembler.code, current.codeLength);
    processor.clearData();
    processor.fillData(subject, subjectLength);
    processor.fillSets(current.sets, current.setCount);
    processor.prepare(place, stack);
    checker.forget();
    return true;
  }

  public int match(int place, int stack) {
    if (!arm(place, stack)) {
      return NONE;
    }
    processor.makeSteps(STEP_LIMIT);
    outcome.note(processor, place, stack);
    return outcome.taken;
  }

  public int peak() {
    return outcome.most;
  }

  public int event(int i, int what) {
    if (i < 0 || i >= outcome.events || what < 0 || what > 2) {
      return NONE;
    }
    if (what == 2) {
      return outcome.places[i];
    }
    return what == 0 ? outcome.codes[i] >> 1 : outcome.codes[i] & 1;
  }

  public int place() {
    int length = tapeLength;
    tapeLength = 0;
    processor.takeCode(tape, length);
    processor.goTo(0);
    checker.forget();
    return length;
  }

  public int check(int what) {
    if (what != 0 && what != 1) {
      return NONE;
    }
    checker.look(processor.code, processor.codeLength);
    return what == 0 ? checker.reason : checker.refusedAt;
  }

  public boolean begin(int at) {
    if (at < 0 || at > 65535) {
      return false;
    }
    processor.goTo(at);
    return true;
  }

  public int run(int n) {
    if (n < 0 || n > RUN_LIMIT) {
      return NONE;
    }
    return processor.makeSteps(n);
  }

  public int get(int what) {
    if (what >= 0 && what < 8) {
      return processor.registers[what];
    }
    switch (what) {
      case 8: return processor.alu.flags;
      case 9: return processor.eip;
      case 10: return processor.stop;
      default: return 0;
    }
  }

  public boolean put(int what, int v) {
    if (what < 0 || what > 8) {
      return false;
    }
    if (what == 8) {
      processor.alu.flags = v & FLAG_BITS;
    } else {
      processor.registers[what] = v;
    }
    return true;
  }

  public boolean store(int at, int v) {
    if (at < 0 || at > 65532) {
      return false;
    }
    processor.writeWord(at, v);
    return true;
  }

  public int load(int at) {
    return at < 0 || at > 65532 ? 0 : processor.readWord(at);
  }

  /** What the text of a grammar says: nodes, each behind those that stand in it. */
  private static final class Tree {
    // A byte of the text makes two nodes at most (itself, and the joint to what stands ahead).
    static final int LIMIT = 8400;
    static final int RULE_LIMIT = 60;
    static final int EMPTY = 0;
    static final int PLAIN = 1;
    static final int NAME = 2;
    static final int SEQUENCE = 3;
    static final int CHOICE = 4;
    static final int OPTION = 5;
    static final int STAR = 6;
    static final int PLUS = 7;
    static final int AND = 8;
    static final int NOT = 9;
    static final int CAPTURE = 10;
    static final int REPEAT = 11;
    static final int NULLABLE = 1;
    static final int SURE = 2;
    static final int NOFAIL = 4;

    final byte[] kind = new byte[LIMIT];
    final int[] left = new int[LIMIT];
    final int[] right = new int[LIMIT];
    final int[] at = new int[LIMIT];
    final int[] link = new int[LIMIT];
    final byte[] facts = new byte[LIMIT];
    final int[] first = new int[8 * LIMIT];
    final int[] ruleAt = new int[RULE_LIMIT];
    final int[] ruleSize = new int[RULE_LIMIT];
    final int[] ruleEnd = new int[RULE_LIMIT];
    final int[] root = new int[RULE_LIMIT];
    int nodes = 0;
    int rules = 0;
    int captures = 0;

    void clear() {
      nodes = 0;
      rules = 0;
      captures = 0;
    }

    int add(int newKind, int newLeft, int newRight, int place) {
      if (nodes >= LIMIT) {
        return NONE;
      }
      int node = nodes;
      nodes++;
      kind[node] = (byte) newKind;
      left[node] = newLeft;
      right[node] = newRight;
      at[node] = place;
      link[node] = NONE;
      facts[node] = 0;
      Arrays.fill(first, 8 * node, 8 * node + 8, 0);
      return node;
    }

    void addBytes(int node, int low, int high) {
      for (int b = low; b <= high; b++) {
        first[8 * node + (b >> 5)] |= 1 << (b & 31);
      }
    }

    void turnBytes(int node) {
      for (int w = 8 * node; w < 8 * node + 8; w++) {
        first[w] = ~first[w];
      }
    }

    /** Letters of a word's bits 1 to 26: 'A' to 'Z' in word 2, 'a' to 'z' in word 3. */
    void joinCases(int chain) {
      int node = chain;
      for (int k = 0; k < nodes && node != NONE; k++) {
        int letters = (first[8 * node + 2] | first[8 * node + 3]) & 0x7FFFFFE;
        first[8 * node + 2] |= letters;
        first[8 * node + 3] |= letters;
        node = link[node];
      }
    }

    /** A chain is linked from its last part back to its first one. */
    int linkPart(int chain, int part) {
      link[part] = chain;
      return part;
    }

    /** Neighbours of a choice that are plain are one plain together. */
    int linkChoice(int chain, int part) {
      if (chain == NONE || kind[chain] != PLAIN || kind[part] != PLAIN) {
        return linkPart(chain, part);
      }
      for (int w = 0; w < 8; w++) {
        first[8 * chain + w] |= first[8 * part + w];
      }
      return chain;
    }

    /** The parts of a chain, joined two by two from the last one on. */
    int fold(int joint, int chain) {
      if (chain == NONE) {
        return add(EMPTY, NONE, NONE, 0);
      }
      int whole = chain;
      int ahead = link[chain];
      for (int k = 0; k < LIMIT && ahead != NONE && whole != NONE; k++) {
        int next = link[ahead];
        whole = add(joint, ahead, whole, 0);
        ahead = next;
      }
      return whole;
    }

    boolean has(int node, int fact) {
      return (facts[node] & fact) != 0;
    }
  }

  /** Reads a text into a tree, or tells the first byte with which no grammar goes on. */
  private static final class Reader {
    private static final int DEPTH_LIMIT = 40;
    private static final int NAME_LIMIT = 20;
    private static final int SUFFIX_LIMIT = 3;
    private static final int QUOTE = 39;

    private final Tree tree;
    private byte[] text;
    private int length = 0;
    private int at = 0;
    int faultAt = NONE;

    Reader(Tree made) {
      tree = made;
      text = new byte[0];
    }

    boolean readText(byte[] bytes, int size) {
      text = bytes;
      length = size;
      at = 0;
      faultAt = size;
      tree.clear();
      skipBlanks();
      for (int k = 0; k < Tree.RULE_LIMIT; k++) {
        if (!readRule(k)) {
          return false;
        }
        skipBlanks();
        if (at >= length) {
          return true;
        }
      }
      refuse();
      return false;
    }

    private boolean readRule(int k) {
      int start = at;
      if (!readName()) {
        return false;
      }
      tree.ruleAt[k] = start;
      tree.ruleSize[k] = at - start;
      skipBlanks();
      if (!takeSign('=')) {
        return false;
      }
      tree.root[k] = readChoice(0);
      if (tree.root[k] == NONE || !takeSign(';')) {
        return false;
      }
      tree.ruleEnd[k] = tree.nodes;
      tree.rules = k + 1;
      return true;
    }

    private int sign() {
      return at >= 0 && at < length ? text[at] & 255 : NONE;
    }

    private int refuse() {
      faultAt = at;
      return NONE;
    }

    private boolean takeSign(int wanted) {
      if (sign() != wanted) {
        refuse();
        return false;
      }
      at++;
      return true;
    }

    private void skipBlanks() {
      boolean comment = false;
      for (; at < length; at++) {
        int s = text[at] & 255;
        if (comment) {
          comment = s != 10;
        } else if (s == '#') {
          comment = true;
        } else if (s != 9 && s != 10 && s != 13 && s != 32) {
          return;
        }
      }
    }

    private static boolean startsName(int s) {
      return s >= 'a' && s <= 'z' || s >= 'A' && s <= 'Z' || s == '_';
    }

    private boolean readName() {
      if (!startsName(sign())) {
        refuse();
        return false;
      }
      int start = at;
      for (; at < length; at++) {
        int s = text[at] & 255;
        if (!startsName(s) && (s < '0' || s > '9')) {
          return true;
        }
        if (at - start >= NAME_LIMIT) {
          refuse();
          return false;
        }
      }
      return true;
    }

    private int readChoice(int depth) {
      int chain = NONE;
      for (int k = 0; k <= length; k++) {
        skipBlanks();
        int part = readSequence(depth);
        if (part == NONE) {
          return NONE;
        }
        chain = tree.linkChoice(chain, part);
        if (sign() != '/') {
          break;
        }
        at++;
      }
      return tree.fold(Tree.CHOICE, chain);
    }

    private static boolean startsPrefix(int s) {
      return startsName(s) || s == '&' || s == '!' || s == '(' || s == '{' || s == QUOTE || s == '['
          || s == '.';
    }

    private int readSequence(int depth) {
      int chain = NONE;
      for (int k = 0; k <= length && startsPrefix(sign()); k++) {
        int part = readPrefix(depth);
        if (part == NONE) {
          return NONE;
        }
        chain = tree.linkPart(chain, part);
      }
      return tree.fold(Tree.SEQUENCE, chain);
    }

    private int readPrefix(int depth) {
      int deep = depth;
      long nots = 0;
      for (int k = 0; k <= DEPTH_LIMIT && (sign() == '&' || sign() == '!'); k++) {
        if (deep >= DEPTH_LIMIT) {
          return refuse();
        }
        nots = nots * 2 + (sign() == '!' ? 1 : 0);
        deep++;
        at++;
        skipBlanks();
      }
      int node = readSuffix(deep);
      for (int k = depth; k < deep && node != NONE; k++) {
        node = tree.add((nots & 1) != 0 ? Tree.NOT : Tree.AND, node, NONE, 0);
        nots >>= 1;
      }
      return node;
    }

    private int readSuffix(int depth) {
      int node = readPrimary(depth);
      for (int k = 0; k <= SUFFIX_LIMIT && node != NONE; k++) {
        skipBlanks();
        int s = sign();
        if (s != '?' && s != '*' && s != '+' && s != '^') {
          break;
        }
        if (k == SUFFIX_LIMIT) {
          return refuse();
        }
        node = s == '^' ? readRepeat(node) : readLoop(node, s);
      }
      return node;
    }

    private int readLoop(int node, int s) {
      int place = at;
      at++;
      int kind = s == '?' ? Tree.OPTION : s == '*' ? Tree.STAR : Tree.PLUS;
      return tree.add(kind, node, NONE, place);
    }

    private int readRepeat(int node) {
      at++;
      int s = sign();
      if (s < '1' || s > '9') {
        return refuse();
      }
      at++;
      return s == '1' ? node : tree.add(Tree.REPEAT, node, s - '0', 0);
    }

    private int readPrimary(int depth) {
      int start = at;
      int s = sign();
      if (s == '(' || s == '{') {
        int number = tree.captures;
        tree.captures += s == '{' ? 1 : 0;
        if (depth >= DEPTH_LIMIT) {
          return refuse();
        }
        at++;
        int node = readChoice(depth + 1);
        if (node == NONE || !takeSign(s == '(' ? ')' : '}')) {
          return NONE;
        }
        return s == '(' ? node : tree.add(Tree.CAPTURE, node, number, 0);
      }
      if (s == QUOTE) {
        return readLiteral();
      }
      if (s == '[') {
        return readClass();
      }
      if (s == '.') {
        at++;
        return addPlain(0, 255);
      }
      return readName() ? tree.add(Tree.NAME, NONE, at - start, start) : NONE;
    }

    private int addPlain(int low, int high) {
      int node = tree.add(Tree.PLAIN, NONE, NONE, 0);
      if (node != NONE) {
        tree.addBytes(node, low, high);
      }
      return node;
    }

    private int readLiteral() {
      at++;
      int chain = NONE;
      for (int k = 0; k <= length && sign() != QUOTE; k++) {
        int b = readByte(false);
        int node = b == NONE ? NONE : addPlain(b, b);
        if (node == NONE) {
          return NONE;
        }
        chain = tree.linkPart(chain, node);
      }
      at++;
      if (sign() == 'i') {
        at++;
        tree.joinCases(chain);
      }
      return tree.fold(Tree.SEQUENCE, chain);
    }

    private int readClass() {
      at++;
      boolean others = sign() == '^';
      at += others ? 1 : 0;
      int node = addPlain(0, NONE);
      for (int k = 0; k <= length && sign() != ']'; k++) {
        int low = readByte(true);
        int high = low;
        if (low != NONE && sign() == '-') {
          at++;
          int start = at;
          high = readByte(true);
          if (high != NONE && high < low) {
            at = start;
            return refuse();
          }
        }
        if (high == NONE || node == NONE) {
          return NONE;
        }
        tree.addBytes(node, low, high);
      }
      at++;
      if (others && node != NONE) {
        tree.turnBytes(node);
      }
      return node;
    }

    private int readByte(boolean inClass) {
      int s = sign();
      if (s == '\\') {
        return readEscape();
      }
      boolean own = inClass ? s != ']' && s != '-' : s != QUOTE;
      if (s < 32 || s > 126 || !own) {
        return refuse();
      }
      at++;
      return s;
    }

    private int readEscape() {
      at++;
      int s = sign();
      int b = s == 'n' ? 10 : s == 't' ? 9 : s == 'r' ? 13 : NONE;
      if (s == QUOTE || s == ']' || s == '-' || s == '\\' || s == '^') {
        b = s;
      }
      if (s == 'x') {
        at++;
        int high = hexValue(sign());
        if (high != NONE) {
          at++;
        }
        int low = high == NONE ? NONE : hexValue(sign());
        b = low == NONE ? NONE : 16 * high + low;
      }
      if (b == NONE) {
        return refuse();
      }
      at++;
      return b;
    }

    private static int hexValue(int s) {
      if (s >= '0' && s <= '9') {
        return s - '0';
      }
      return s >= 'a' && s <= 'f' ? s - 'a' + 10 : NONE;
    }
  }

  /** Finds what is true of each node, and the faults of a text that is well formed. */
  private static final class Judge {
    private static final int UNBOUND = 2;
    private static final int LEFT = 3;
    private static final int ENDLESS = 4;
    // Each pass but the last finds a fact more of some rule, of which there are three.
    private static final int FACT_PASSES = 3 * Tree.RULE_LIMIT + 2;

    private final Tree tree;
    private final long[] begins = new long[Tree.LIMIT];
    private final long[] reach = new long[Tree.RULE_LIMIT];
    private byte[] text;
    int faultAt = NONE;

    Judge(Tree judged) {
      tree = judged;
      text = new byte[0];
    }

    int findKind(byte[] bytes) {
      text = bytes;
      faultAt = NONE;
      bindNames();
      findSecondNames();
      if (faultAt != NONE) {
        return UNBOUND;
      }
      findFacts();
      findBegins();
      if (findLeft()) {
        return LEFT;
      }
      findEndless();
      if (faultAt != NONE) {
        return ENDLESS;
      }
      findFirsts();
      return 0;
    }

    private void blame(int place) {
      if (faultAt == NONE || place < faultAt) {
        faultAt = place;
      }
    }

    private void bindNames() {
      for (int i = 0; i < tree.nodes; i++) {
        if (tree.kind[i] == Tree.NAME) {
          tree.left[i] = findRule(tree.at[i], tree.right[i]);
          if (tree.left[i] == NONE) {
            blame(tree.at[i]);
          }
        }
      }
    }

    private void findSecondNames() {
      for (int k = 0; k < tree.rules; k++) {
        if (findRule(tree.ruleAt[k], tree.ruleSize[k]) != k) {
          blame(tree.ruleAt[k]);
        }
      }
    }

    private int findRule(int at, int size) {
      for (int k = 0; k < tree.rules; k++) {
        if (tree.ruleSize[k] == size && sameBytes(tree.ruleAt[k], at, size)) {
          return k;
        }
      }
      return NONE;
    }

    private boolean sameBytes(int one, int other, int size) {
      for (int i = 0; i < size; i++) {
        if (text[one + i] != text[other + i]) {
          return false;
        }
      }
      return true;
    }

    private void findFacts() {
      boolean changed = true;
      for (int pass = 0; pass < FACT_PASSES && changed; pass++) {
        changed = false;
        for (int i = 0; i < tree.nodes; i++) {
          int facts = factsOf(i);
          if (facts != tree.facts[i]) {
            tree.facts[i] = (byte) facts;
            changed = true;
          }
        }
      }
    }

    private int factsOf(int i) {
      int kind = tree.kind[i];
      if (kind == Tree.PLAIN) {
        return Tree.SURE;
      }
      if (kind == Tree.EMPTY) {
        return Tree.NULLABLE | Tree.NOFAIL;
      }
      int e = tree.facts[kind == Tree.NAME ? tree.root[tree.left[i]] : tree.left[i]];
      switch (kind) {
        case Tree.SEQUENCE:
          return factsInRow(e, tree.facts[tree.right[i]]);
        case Tree.REPEAT:
          return factsInRow(e, e);
        case Tree.CHOICE:
          int other = tree.facts[tree.right[i]];
          return (e | other) & (Tree.NULLABLE | Tree.NOFAIL) | e & other & Tree.SURE;
        case Tree.OPTION:
        case Tree.STAR:
          return Tree.NULLABLE | Tree.NOFAIL;
        case Tree.AND:
        case Tree.NOT:
          return Tree.NULLABLE;
        case Tree.PLUS:
          return e & (Tree.NULLABLE | Tree.SURE);
        default:
          return e;
      }
    }

    private static int factsInRow(int one, int other) {
      int sure = (other & Tree.NOFAIL) != 0 ? one & Tree.SURE : 0;
      return one & other & (Tree.NULLABLE | Tree.NOFAIL) | sure;
    }

    private void findBegins() {
      for (int i = 0; i < tree.nodes; i++) {
        int kind = tree.kind[i];
        if (kind == Tree.EMPTY || kind == Tree.PLAIN) {
          begins[i] = 0;
        } else if (kind == Tree.NAME) {
          begins[i] = 1L << tree.left[i];
        } else {
          begins[i] = begins[tree.left[i]];
          if (goesRight(i)) {
            begins[i] |= begins[tree.right[i]];
          }
        }
      }
    }

    private boolean goesRight(int i) {
      int kind = tree.kind[i];
      return kind == Tree.CHOICE || kind == Tree.SEQUENCE && tree.has(tree.left[i], Tree.NULLABLE);
    }

    private boolean findLeft() {
      for (int k = 0; k < tree.rules; k++) {
        reach[k] = begins[tree.root[k]];
      }
      for (int through = 0; through < tree.rules; through++) {
        for (int k = 0; k < tree.rules; k++) {
          if ((reach[k] >> through & 1) != 0) {
            reach[k] |= reach[through];
          }
        }
      }
      for (int k = 0; k < tree.rules; k++) {
        if ((reach[k] >> k & 1) != 0) {
          blame(tree.ruleAt[k]);
        }
      }
      return faultAt != NONE;
    }

    private void findEndless() {
      for (int i = 0; i < tree.nodes; i++) {
        boolean loop = tree.kind[i] == Tree.STAR || tree.kind[i] == Tree.PLUS;
        if (loop && tree.has(tree.left[i], Tree.NULLABLE)) {
          blame(tree.at[i]);
        }
      }
    }

    /**
     * No rule is left here, so one that another begins with reaches fewer rules than that: in this
     * order the roots are whole after one pass, and what stands further behind after a second.
     */
    private void findFirsts() {
      for (int reached = 0; reached < tree.rules; reached++) {
        for (int k = 0; k < tree.rules; k++) {
          if (Long.bitCount(reach[k]) == reached) {
            takeFirsts(k == 0 ? 0 : tree.ruleEnd[k - 1], tree.ruleEnd[k]);
          }
        }
      }
      takeFirsts(0, tree.nodes);
    }

    private void takeFirsts(int from, int to) {
      for (int i = from; i < to; i++) {
        int kind = tree.kind[i];
        if (kind > Tree.PLAIN && kind != Tree.AND && kind != Tree.NOT) {
          joinFirst(i, kind == Tree.NAME ? tree.root[tree.left[i]] : tree.left[i]);
          if (goesRight(i)) {
            joinFirst(i, tree.right[i]);
          }
        }
      }
    }

    private void joinFirst(int to, int from) {
      for (int w = 0; w < 8; w++) {
        tree.first[8 * to + w] |= tree.first[8 * from + w];
      }
    }
  }

  /** The instructions of a grammar, and what is told of its rules. */
  private static final class Program {
    static final int LIMIT = 2000;
    static final int SET_LIMIT = 128;
    static final int CHAR = 0;
    static final int SET = 1;
    static final int ANY = 2;
    static final int SPAN = 3;
    static final int TESTCHAR = 4;
    static final int TESTSET = 5;
    static final int TESTANY = 6;
    static final int JUMP = 7;
    static final int CHOICE = 8;
    static final int COMMIT = 9;
    static final int PARTIAL = 10;
    static final int BACKCOMMIT = 11;
    static final int FAILTWICE = 12;
    static final int FAIL = 13;
    static final int CALL = 14;
    static final int RET = 15;
    static final int OPEN = 16;
    static final int CLOSE = 17;
    static final int END = 18;
    // Labels of what stands behind all instructions.
    static final int TO_FAIL = LIMIT;
    static final int TO_NO = LIMIT + 1;
    static final int TO_OVER = LIMIT + 2;

    final int[] op = new int[LIMIT];
    final int[] arg = new int[LIMIT];
    final int[] target = new int[LIMIT];
    final int[] place = new int[LIMIT + 3];
    final int[] sets = new int[8 * SET_LIMIT];
    final int[] ruleFacts = new int[Tree.RULE_LIMIT];
    final int[] ruleFirst = new int[8 * Tree.RULE_LIMIT];
    final int[] ruleStart = new int[Tree.RULE_LIMIT];
    int rules = 0;
    int captures = 0;
    int length = 0;
    int setCount = 0;
    int codeLength = 0;

    boolean usesSet(int i) {
      return op[i] == SET || op[i] == SPAN || op[i] == TESTSET;
    }
  }

  /** Makes a tree to a program: each node's size is known first, and so are all targets. */
  private static final class Coder {
    private static final int HUGE = Program.LIMIT + 1;

    private final Tree tree;
    private Program made;
    private final int[] size = new int[Tree.LIMIT];
    // A sequence with an empty half is just its other half: so no walk is longer than the program.
    private final int[] core = new int[Tree.LIMIT];
    private final int[] waitingNode = new int[Program.LIMIT];
    private final int[] waitingAt = new int[Program.LIMIT];
    private int waiting = 0;

    Coder(Tree coded, Program first) {
      tree = coded;
      made = first;
    }

    boolean makeProgram(Program program) {
      made = program;
      measure();
      if (!placeRules()) {
        return false;
      }
      write(0, Program.CALL, 0, made.ruleStart[0]);
      write(1, Program.END, 0, NONE);
      for (int k = 0; k < tree.rules; k++) {
        await(tree.root[k], made.ruleStart[k]);
        writeWaiting();
        write(made.ruleStart[k] + size[tree.root[k]], Program.RET, 0, NONE);
      }
      shorten();
      return numberSets();
    }

    private void measure() {
      for (int i = 0; i < tree.nodes; i++) {
        size[i] = Math.min(HUGE, sizeOf(i));
        core[i] = coreOf(i);
      }
    }

    private int sizeOf(int i) {
      int kind = tree.kind[i];
      if (kind <= Tree.NAME) {
        return kind == Tree.EMPTY ? 0 : 1;
      }
      int e = tree.left[i];
      boolean sure = tree.has(e, Tree.SURE);
      switch (kind) {
        case Tree.SEQUENCE:
          return size[e] + size[tree.right[i]];
        case Tree.CHOICE:
          return trySize(e, isDirect(i)) + size[e] + 1 + size[tree.right[i]];
        case Tree.OPTION:
          return trySize(e, sure) + size[e] + (sure ? 0 : 1);
        case Tree.STAR:
          return starSize(e);
        case Tree.PLUS:
          return size[e] + starSize(e);
        case Tree.NOT:
          return sure ? 2 : trySize(e, false) + size[e] + 1;
        case Tree.AND:
          return sure ? 3 : trySize(e, false) + size[e] + 2;
        case Tree.CAPTURE:
          return size[e] + 2;
        default:
          return size[e] * tree.right[i];
      }
    }

    private int starSize(int e) {
      return tree.kind[e] == Tree.PLAIN ? 1 : trySize(e, tree.has(e, Tree.SURE)) + size[e] + 1;
    }

    /** How many instructions stand ahead of what is tried. */
    private int trySize(int e, boolean direct) {
      return direct || tree.has(e, Tree.NULLABLE) ? 1 : 2;
    }

    private int coreOf(int i) {
      if (tree.kind[i] != Tree.SEQUENCE) {
        return i;
      }
      if (size[tree.left[i]] == 0) {
        return core[tree.right[i]];
      }
      return size[tree.right[i]] == 0 ? core[tree.left[i]] : i;
    }

    private boolean isDirect(int choice) {
      int e = tree.left[choice];
      int others = tree.right[choice];
      if (tree.has(e, Tree.SURE)) {
        return true;
      }
      if (tree.has(e, Tree.NULLABLE) || tree.has(others, Tree.NULLABLE)) {
        return false;
      }
      int common = 0;
      for (int w = 0; w < 8; w++) {
        common |= tree.first[8 * e + w] & tree.first[8 * others + w];
      }
      return common == 0;
    }

    private boolean placeRules() {
      int at = 2;
      for (int k = 0; k < tree.rules; k++) {
        int root = tree.root[k];
        made.ruleStart[k] = at;
        made.ruleFacts[k] = tree.facts[root];
        System.arraycopy(tree.first, 8 * root, made.ruleFirst, 8 * k, 8);
        at += size[root] + 1;
      }
      made.rules = tree.rules;
      made.captures = tree.captures;
      made.length = at;
      return at <= Program.LIMIT;
    }

    private void write(int at, int op, int arg, int target) {
      if (at >= 0 && at < Program.LIMIT) {
        made.op[at] = op;
        made.arg[at] = arg;
        made.target[at] = target;
      }
    }

    /** What waits takes places apart from one another, so there is room for all. */
    private void await(int node, int at) {
      if (size[node] > 0 && waiting < Program.LIMIT) {
        waitingNode[waiting] = core[node];
        waitingAt[waiting] = at;
        waiting++;
      }
    }

    private void writeWaiting() {
      for (int k = 0; k < 1000000 && waiting > 0; k++) {
        waiting--;
        writeNode(waitingNode[waiting], waitingAt[waiting]);
      }
      waiting = 0;
    }

    private void writeNode(int i, int at) {
      int e = tree.left[i];
      switch (tree.kind[i]) {
        case Tree.PLAIN:
          writeByBytes(at, i, Program.CHAR, NONE);
          break;
        case Tree.NAME:
          write(at, Program.CALL, 0, made.ruleStart[e]);
          break;
        case Tree.SEQUENCE:
          await(e, at);
          await(tree.right[i], at + size[e]);
          break;
        case Tree.CHOICE:
          writeChoice(i, at);
          break;
        case Tree.OPTION:
          writeOption(e, at);
          break;
        case Tree.STAR:
          writeStar(e, at);
          break;
        case Tree.PLUS:
          await(e, at);
          writeStar(e, at + size[e]);
          break;
        case Tree.NOT:
          writeNot(e, at);
          break;
        case Tree.AND:
          writeAnd(e, at);
          break;
        case Tree.CAPTURE:
          write(at, Program.OPEN, tree.right[i], NONE);
          await(e, at + 1);
          write(at + 1 + size[e], Program.CLOSE, tree.right[i], NONE);
          break;
        case Tree.REPEAT:
          for (int k = 0; k < tree.right[i]; k++) {
            await(e, at + k * size[e]);
          }
          break;
        default:
          break;
      }
    }

    /**
     * CHAR, SET, ANY, or the three TESTs, which are numbered likewise from TESTCHAR on. (Of a word
     * with one bit, the word less 1 has as many bits as stand below it.)
     */
    private void writeByBytes(int at, int node, int charOp, int target) {
      int bytes = 0;
      int one = 0;
      for (int w = 0; w < 8; w++) {
        int word = tree.first[8 * node + w];
        if (word != 0) {
          one = 32 * w + Integer.bitCount(word - 1);
        }
        bytes += Integer.bitCount(word);
      }
      if (bytes == 1) {
        write(at, charOp, one, target);
      } else if (bytes == 256) {
        write(at, charOp + 2, 0, target);
      } else {
        write(at, charOp + 1, node, target);
      }
    }

    /** The TEST and the CHOICE ahead of e; other is where it goes without e. */
    private void writeTry(int at, int e, boolean direct, int other) {
      int next = at;
      if (direct || !tree.has(e, Tree.NULLABLE)) {
        writeByBytes(next, e, Program.TESTCHAR, other);
        next++;
      }
      if (!direct) {
        write(next, Program.CHOICE, 0, other);
      }
    }

    private void writeChoice(int i, int at) {
      int e = tree.left[i];
      int others = tree.right[i];
      boolean direct = isDirect(i);
      int inner = at + trySize(e, direct);
      int other = inner + size[e] + 1;
      writeTry(at, e, direct, other);
      await(e, inner);
      write(other - 1, direct ? Program.JUMP : Program.COMMIT, 0, other + size[others]);
      await(others, other);
    }

    private void writeOption(int e, int at) {
      boolean sure = tree.has(e, Tree.SURE);
      int inner = at + trySize(e, sure);
      int exit = inner + size[e] + (sure ? 0 : 1);
      writeTry(at, e, sure, exit);
      await(e, inner);
      if (!sure) {
        write(exit - 1, Program.COMMIT, 0, exit);
      }
    }

    private void writeStar(int e, int at) {
      if (tree.kind[e] == Tree.PLAIN) {
        write(at, Program.SPAN, e, NONE);
        return;
      }
      boolean sure = tree.has(e, Tree.SURE);
      int inner = at + trySize(e, sure);
      int exit = inner + size[e] + 1;
      writeTry(at, e, sure, exit);
      await(e, inner);
      write(exit - 1, sure ? Program.JUMP : Program.PARTIAL, 0, sure ? at : inner);
    }

    private void writeNot(int e, int at) {
      boolean sure = tree.has(e, Tree.SURE);
      int inner = at + trySize(e, sure);
      int exit = sure ? inner + 1 : inner + size[e] + 1;
      writeTry(at, e, sure, exit);
      if (!sure) {
        await(e, inner);
      }
      write(exit - 1, sure ? Program.FAIL : Program.FAILTWICE, 0, NONE);
    }

    private void writeAnd(int e, int at) {
      boolean sure = tree.has(e, Tree.SURE);
      int inner = at + trySize(e, sure);
      int other = sure ? inner + 1 : inner + size[e] + 1;
      writeTry(at, e, sure, other);
      if (!sure) {
        await(e, inner);
      }
      write(other - 1, sure ? Program.JUMP : Program.BACKCOMMIT, 0, other + 1);
      write(other, Program.FAIL, 0, NONE);
    }

    private void shorten() {
      followJumps();
      replaceJumps();
      replaceCalls();
      followJumps();
      replaceJumps();
    }

    private void followJumps() {
      for (int i = 0; i < made.length; i++) {
        int goal = made.target[i];
        for (int k = 0; k < made.length && goal != NONE && made.op[goal] == Program.JUMP; k++) {
          goal = made.target[goal];
        }
        made.target[i] = goal;
      }
    }

    private void replaceJumps() {
      for (int i = 0; i < made.length; i++) {
        int goal = made.target[i];
        if (made.op[i] == Program.JUMP && goal != NONE) {
          if (made.op[goal] == Program.RET || made.op[goal] == Program.FAIL) {
            made.op[i] = made.op[goal];
            made.target[i] = NONE;
          }
        }
      }
    }

    private void replaceCalls() {
      for (int i = 0; i < made.length - 1; i++) {
        if (made.op[i] == Program.CALL && made.op[i + 1] == Program.RET) {
          made.op[i] = Program.JUMP;
        }
      }
    }

    private boolean numberSets() {
      made.setCount = 0;
      for (int i = 0; i < made.length; i++) {
        if (made.usesSet(i)) {
          made.arg[i] = setNumber(made.arg[i]);
          if (made.arg[i] == NONE) {
            return false;
          }
        }
      }
      return true;
    }

    private boolean isSet(int s, int node) {
      for (int w = 0; w < 8; w++) {
        if (made.sets[8 * s + w] != tree.first[8 * node + w]) {
          return false;
        }
      }
      return true;
    }

    private int setNumber(int node) {
      for (int s = 0; s < made.setCount; s++) {
        if (isSet(s, node)) {
          return s;
        }
      }
      if (made.setCount >= Program.SET_LIMIT) {
        return NONE;
      }
      System.arraycopy(tree.first, 8 * node, made.sets, 8 * made.setCount, 8);
      made.setCount++;
      return made.setCount - 1;
    }
  }

  /** Lays the bytes of a program's image, again and again until all short jumps reach. */
  private static final class Assembler {
    static final int LIMIT = 61440;
    private static final int BUNDLE = 32;
    private static final int NOP = 144;
    private static final int HALT = 244;
    private static final int INC = 64;
    private static final int DEC = 72;
    private static final int READ = 139;
    private static final int WRITE = 137;
    private static final int WRITE_NUMBER = 199;
    private static final int JUMP_LIMIT = 3 * Program.LIMIT + 10;
    private static final int EAX = 0;
    private static final int ECX = 1;
    private static final int EDX = 2;
    private static final int EBX = 3;
    private static final int EBP = 5;
    private static final int ESI = 6;
    private static final int EDI = 7;
    private static final int ADD = 0;
    private static final int AND = 4;
    private static final int SUB = 5;
    private static final int CMP = 7;
    private static final int ALWAYS = -1;
    private static final int NOT_BELOW = 3;
    private static final int EQUAL = 4;
    private static final int UNEQUAL = 5;
    private static final int SIGNED = 8;
    private static final int DATA = 131072;
    private static final int LENGTH_AT = 139264;
    private static final int STACK_AT = 12288;
    private static final int STACK_MASK = 65520;

    final byte[] code = new byte[LIMIT];
    private Program laid;
    private final byte[] aligned = new byte[Program.LIMIT];
    private final byte[] near = new byte[JUMP_LIMIT];
    private final int[] jumpEnd = new int[JUMP_LIMIT];
    private final int[] jumpGoal = new int[JUMP_LIMIT];
    private int jumps = 0;
    private int position = 0;
    private int label = NONE;
    // The code of the grammar that was stays until it is sure that the new one is not too large.
    private boolean writing = false;

    Assembler(Program first) {
      laid = first;
    }

    boolean makeCode(Program program) {
      laid = program;
      markAligned();
      Arrays.fill(near, (byte) 0);
      boolean changed = true;
      for (int pass = 0; pass <= JUMP_LIMIT && changed; pass++) {
        layAll(false);
        if (position > LIMIT) {
          return false;
        }
        changed = widenJumps();
      }
      layAll(true);
      laid.codeLength = position;
      return true;
    }

    private void markAligned() {
      Arrays.fill(aligned, (byte) 0);
      for (int i = 0; i < laid.length; i++) {
        if (laid.op[i] == Program.CHOICE && laid.target[i] != NONE) {
          aligned[laid.target[i]] = 1;
        }
        if (laid.op[i] == Program.CALL && i + 1 < laid.length) {
          aligned[i + 1] = 1;
        }
      }
    }

    private boolean widenJumps() {
      boolean changed = false;
      for (int j = 0; j < jumps; j++) {
        int far = laid.place[jumpGoal[j]] - jumpEnd[j];
        if (near[j] == 0 && (far < -128 || far > 127)) {
          near[j] = 1;
          changed = true;
        }
      }
      return changed;
    }

    private void layAll(boolean last) {
      writing = last;
      position = 0;
      jumps = 0;
      for (int i = 0; i < laid.length; i++) {
        if (aligned[i] != 0) {
          keepRoom(BUNDLE);
        }
        label = i;
        if (laid.op[i] < Program.JUMP) {
          layTaking(i);
        } else {
          layControl(i);
        }
      }
      label = Program.TO_FAIL;
      layFail();
      layGo();
      label = Program.TO_NO;
      layEnd(-1);
      label = Program.TO_OVER;
      layEnd(-2);
    }

    /** What looks at the next byte. */
    private void layTaking(int i) {
      int op = laid.op[i];
      int arg = laid.arg[i];
      int other = op == Program.SPAN ? i + 1 : Program.TO_FAIL;
      int goal = op >= Program.TESTCHAR ? laid.target[i] : other;
      layLimit();
      layJump(NOT_BELOW, goal);
      if (op != Program.ANY && op != Program.TESTANY) {
        layNext();
      }
      if (op == Program.CHAR || op == Program.TESTCHAR) {
        layNumber(CMP, EAX, arg);
        layJump(UNEQUAL, goal);
      } else if (laid.usesSet(i)) {
        layIn(arg);
        layJump(NOT_BELOW, goal);
      }
      if (op < Program.TESTCHAR) {
        layOne(INC + EBX);
      }
      if (op == Program.SPAN) {
        layJump(ALWAYS, i);
      }
    }

    private void layControl(int i) {
      int goal = laid.target[i];
      switch (laid.op[i]) {
        case Program.CHOICE:
          layChoice(goal);
          layEntry();
          break;
        case Program.CALL:
          layCall(i + 1);
          layEntry();
          break;
        case Program.COMMIT:
          layNumber(SUB, ESI, 16);
          layOne(INC + EBP);
          break;
        case Program.PARTIAL:
          layPartial();
          break;
        case Program.BACKCOMMIT:
          layBackCommit();
          break;
        case Program.FAILTWICE:
          layNumber(SUB, ESI, 16);
          break;
        case Program.RET:
          layReturn();
          layGo();
          break;
        case Program.OPEN:
          layEvent(2 * laid.arg[i]);
          break;
        case Program.CLOSE:
          layEvent(2 * laid.arg[i] + 1);
          break;
        case Program.END:
          layCopy(EAX, EBX);
          layOne(HALT);
          break;
        default:
          break;
      }
      layLeap(laid.op[i], goal);
    }

    /** The jmp that most of what does not look at a byte ends with. */
    private void layLeap(int op, int goal) {
      if (op == Program.FAIL || op == Program.FAILTWICE) {
        layJump(ALWAYS, Program.TO_FAIL);
      } else if (goal != NONE && op != Program.CHOICE) {
        layJump(ALWAYS, goal);
      }
    }

    private void layByte(int v) {
      if (writing && position < LIMIT) {
        code[position] = (byte) v;
      }
      position++;
    }

    private void layWord(int v) {
      if (!writing) {
        position += 4;
        return;
      }
      for (int shift = 0; shift < 32; shift += 8) {
        layByte(v >> shift);
      }
    }

    /** Room for n bytes in one bundle; a label is what stands behind the nops. */
    private void keepRoom(int n) {
      if (position % BUNDLE + n > BUNDLE) {
        for (int k = position % BUNDLE; k < BUNDLE; k++) {
          layByte(NOP);
        }
      }
      if (label != NONE) {
        laid.place[label] = position;
        label = NONE;
      }
    }

    private void layOne(int v) {
      keepRoom(1);
      layByte(v);
    }

    /** The mode, register and b of a second byte. */
    private static int second(int mode, int reg, int b) {
      return 64 * mode + 8 * reg + b;
    }

    private void layCopy(int to, int from) {
      keepRoom(2);
      layByte(WRITE);
      layByte(second(3, from, to));
    }

    private void layLoadNumber(int to, int v) {
      keepRoom(5);
      layByte(184 + to);
      layWord(v);
    }

    private void layNumber(int n, int reg, int v) {
      keepRoom(6);
      layByte(129);
      layByte(second(3, n, reg));
      layWord(v);
    }

    /** Reads or writes DATA at eax and so much more. */
    private void layMemory(int opcode, int reg, int offset) {
      keepRoom(6);
      layByte(opcode);
      layByte(second(2, reg, EAX));
      layWord(DATA + offset);
    }

    private void layJump(int c, int goal) {
      if (jumps >= JUMP_LIMIT || goal < 0 || goal >= laid.place.length) {
        return;
      }
      int j = jumps;
      jumps++;
      boolean wide = near[j] != 0;
      int size = !wide ? 2 : c == ALWAYS ? 5 : 6;
      keepRoom(size);
      jumpEnd[j] = position + size;
      jumpGoal[j] = goal;
      int far = laid.place[goal] - jumpEnd[j];
      if (!wide) {
        layByte(c == ALWAYS ? 235 : 112 + c);
        layByte(far);
        return;
      }
      if (c != ALWAYS) {
        layByte(15);
      }
      layByte(c == ALWAYS ? 233 : 128 + c);
      layWord(far);
    }

    private void layLimit() {
      keepRoom(6);
      layByte(59);
      layByte(second(0, EBX, 5));
      layWord(LENGTH_AT);
    }

    private void layNext() {
      layCopy(EAX, EBX);
      keepRoom(13);
      layNumber(AND, EAX, 65535);
      layByte(15);
      layByte(182);
      layByte(second(2, EAX, EAX));
      layWord(DATA);
    }

    private void layIn(int s) {
      layCopy(ECX, EAX);
      keepRoom(3);
      layByte(193);
      layByte(second(3, 5, EAX));
      layByte(5);
      keepRoom(7);
      layByte(141);
      layByte(second(0, EAX, 4));
      layByte(second(2, EAX, 5));
      layWord(4096 + 32 * s);
      keepRoom(12);
      layNumber(AND, EAX, 65532);
      layMemory(READ, EAX, 0);
      keepRoom(3);
      layByte(15);
      layByte(163);
      layByte(second(3, ECX, EAX));
    }

    private void layGo() {
      keepRoom(14);
      layNumber(AND, ECX, 65504);
      layNumber(ADD, ECX, 65536);
      layByte(255);
      layByte(second(3, 4, ECX));
    }

    private void layEntry() {
      layNumber(ADD, ESI, 16);
      layOne(DEC + EBP);
      layJump(SIGNED, Program.TO_OVER);
    }

    private void layChoice(int goal) {
      layCopy(EAX, ESI);
      layLoadNumber(ECX, laid.place[goal]);
      keepRoom(30);
      layNumber(AND, EAX, STACK_MASK);
      layMemory(WRITE, ECX, 0);
      layMemory(WRITE, EBX, 4);
      layMemory(WRITE, EDI, 8);
      layMemory(WRITE, EBP, 12);
    }

    private void layCall(int behind) {
      layCopy(EAX, ESI);
      layLoadNumber(ECX, laid.place[behind]);
      keepRoom(28);
      layNumber(AND, EAX, STACK_MASK);
      layMemory(WRITE, ECX, 0);
      layMemory(WRITE_NUMBER, 0, 4);
      layWord(-1);
      layMemory(WRITE, EBP, 12);
    }

    private void layReturn() {
      layNumber(SUB, ESI, 16);
      layOne(INC + EBP);
      layCopy(EAX, ESI);
      keepRoom(12);
      layNumber(AND, EAX, STACK_MASK);
      layMemory(READ, ECX, 0);
    }

    private void layPartial() {
      layCopy(EAX, ESI);
      layNumber(SUB, EAX, 16);
      keepRoom(6);
      layByte(141);
      layByte(second(2, ECX, EBP));
      layWord(1);
      keepRoom(24);
      layNumber(AND, EAX, STACK_MASK);
      layMemory(WRITE, EBX, 4);
      layMemory(WRITE, EDI, 8);
      layMemory(WRITE, ECX, 12);
    }

    private void layBackCommit() {
      layNumber(SUB, ESI, 16);
      layCopy(EAX, ESI);
      keepRoom(24);
      layNumber(AND, EAX, STACK_MASK);
      layMemory(READ, EBX, 4);
      layMemory(READ, EDI, 8);
      layMemory(READ, EBP, 12);
    }

    private void layEvent(int number) {
      layCopy(EAX, EDI);
      layLoadNumber(ECX, number);
      keepRoom(18);
      layNumber(AND, EAX, 65528);
      layMemory(WRITE, ECX, 0);
      layMemory(WRITE, EBX, 4);
      layNumber(ADD, EDI, 8);
      layOne(DEC + EBP);
      layJump(SIGNED, Program.TO_OVER);
    }

    private void layFail() {
      layNumber(CMP, ESI, STACK_AT);
      layJump(EQUAL, Program.TO_NO);
      layNumber(SUB, ESI, 16);
      layCopy(EAX, ESI);
      keepRoom(30);
      layNumber(AND, EAX, STACK_MASK);
      layMemory(READ, ECX, 0);
      layMemory(READ, EBX, 4);
      layMemory(READ, EDX, 8);
      layMemory(READ, EBP, 12);
      layNumber(CMP, EBX, -1);
      layJump(EQUAL, Program.TO_FAIL);
      layCopy(EDI, EDX);
    }

    private void layEnd(int answer) {
      layLoadNumber(EAX, answer);
      layOne(HALT);
    }
  }

  /** Tells what the bytes at a place say: the kind of the instruction, its parts and its size. */
  private static final class Decoder {
    static final int UNKNOWN = 0;
    static final int ARITH_TO_M = 1;
    static final int ARITH_TO_R = 2;
    static final int ARITH_NUMBER = 3;
    static final int INC = 4;
    static final int DEC = 5;
    static final int TEST_R = 6;
    static final int TEST_NUMBER = 7;
    static final int NOT = 8;
    static final int NEG = 9;
    static final int SHIFT = 10;
    static final int SHIFT_ECX = 11;
    static final int BT = 12;
    static final int IMUL_R = 13;
    static final int MUL = 14;
    static final int IMUL = 15;
    static final int DIV = 16;
    static final int IDIV = 17;
    static final int SIGN = 18;
    static final int TURN = 19;
    static final int MOVE_TO_M = 20;
    static final int MOVE_TO_R = 21;
    static final int MOVE_NUMBER = 22;
    static final int EXCHANGE = 23;
    static final int LEA = 24;
    static final int MOVE_WIDE = 25;
    static final int MOVE_SIGNED = 26;
    static final int MOVE_IF = 27;
    static final int PUT_IF = 28;
    static final int NOP = 29;
    static final int HALT = 30;
    static final int JUMP = 31;
    static final int JUMP_IF = 32;
    static final int JUMP_M = 33;
    static final int PUSH = 34;
    static final int PUSH_NUMBER = 35;
    static final int POP = 36;
    static final int CALL = 37;
    static final int CALL_M = 38;
    static final int RET = 39;
    static final int REGISTER_MODE = 3;
    private static final int BEHIND = 244;

    private byte[] code;
    private int length = 0;
    private int at = 0;
    int kind = UNKNOWN;
    int opcode = 0;
    int n = 0;
    int mode = REGISTER_MODE;
    int reg = 0;
    int b = 0;
    int base = NONE;
    int index = NONE;
    int scale = 0;
    int disp = 0;
    int number = 0;
    int width = 4;
    int size = 0;
    boolean third = false;

    Decoder(byte[] image) {
      code = image;
    }

    void decode(byte[] image, int end, int start) {
      code = image;
      length = Math.min(end, image.length);
      at = start;
      kind = UNKNOWN;
      mode = REGISTER_MODE;
      width = 4;
      opcode = nextByte();
      if (opcode == 15) {
        decodeTwo(nextByte());
      } else if (opcode < 64) {
        decodeArithmetic();
      } else if (opcode < 96) {
        kind = opcode < 72 ? INC : opcode < 80 ? DEC : opcode < 88 ? PUSH : POP;
        b = opcode & 7;
      } else if (opcode >= 112 && opcode < 128) {
        kind = JUMP_IF;
        n = opcode & 15;
        number = (byte) nextByte();
      } else if (opcode >= 184 && opcode < 192) {
        kind = MOVE_NUMBER;
        b = opcode & 7;
        number = nextWord();
      } else if (opcode < 144) {
        decodeMoves();
      } else {
        decodeOthers();
      }
      size = at - start;
    }

    private int nextByte() {
      int v = at >= 0 && at < length ? code[at] & 255 : BEHIND;
      at++;
      return v;
    }

    private int nextWord() {
      int start = at;
      at += 4;
      if (start >= 0 && at <= length) {
        return code[start] & 255 | (code[start + 1] & 255) << 8 | (code[start + 2] & 255) << 16
            | code[start + 3] << 24;
      }
      int v = 0;
      for (int k = 0; k < 4; k++) {
        int b = start + k < length ? code[start + k] & 255 : BEHIND;
        v |= b << 8 * k;
      }
      return v;
    }

    private void decodeArithmetic() {
      int form = opcode & 7;
      if (form == 1 || form == 3) {
        n = opcode >> 3;
        decodeM(form == 1 ? ARITH_TO_M : ARITH_TO_R);
      }
    }

    private void decodeM(int found) {
      kind = found;
      int second = nextByte();
      mode = second >> 6;
      reg = second >> 3 & 7;
      b = second & 7;
      base = NONE;
      index = NONE;
      disp = 0;
      third = false;
      if (mode == REGISTER_MODE) {
        return;
      }
      base = b;
      if (b == 4) {
        decodeThird();
      }
      if (mode == 0 && base == 5) {
        base = NONE;
        disp = nextWord();
      } else if (mode == 1) {
        disp = (byte) nextByte();
      } else if (mode == 2) {
        disp = nextWord();
      }
    }

    private void decodeThird() {
      int v = nextByte();
      third = true;
      scale = v >> 6;
      index = v >> 3 & 7;
      base = v & 7;
      if (index == 4) {
        index = NONE;
      }
    }

    private void decodeMoves() {
      switch (opcode) {
        case 0x68:
          kind = PUSH_NUMBER;
          number = nextWord();
          break;
        case 0x6A:
          kind = PUSH_NUMBER;
          number = (byte) nextByte();
          break;
        case 0x81:
        case 0x83:
          decodeM(ARITH_NUMBER);
          n = reg;
          number = opcode == 0x81 ? nextWord() : (byte) nextByte();
          break;
        case 0x85:
          decodeM(TEST_R);
          break;
        case 0x87:
          decodeM(EXCHANGE);
          break;
        case 0x88:
        case 0x89:
          decodeM(MOVE_TO_M);
          width = opcode == 0x88 ? 1 : 4;
          break;
        case 0x8A:
        case 0x8B:
          decodeM(MOVE_TO_R);
          width = opcode == 0x8A ? 1 : 4;
          break;
        case 0x8D:
          decodeM(LEA);
          refuseIf(mode == REGISTER_MODE);
          break;
        default:
          break;
      }
    }

    private void refuseIf(boolean wrong) {
      if (wrong) {
        kind = UNKNOWN;
      }
    }

    private void decodeOthers() {
      switch (opcode) {
        case 0x90:
          kind = NOP;
          break;
        case 0x99:
          kind = SIGN;
          break;
        case 0xC1:
        case 0xD1:
        case 0xD3:
          decodeM(opcode == 0xD3 ? SHIFT_ECX : SHIFT);
          n = reg;
          number = opcode == 0xC1 ? nextByte() : 1;
          refuseIf(n == 2 || n == 3 || n == 6);
          break;
        case 0xC6:
        case 0xC7:
          decodeM(MOVE_NUMBER);
          width = opcode == 0xC6 ? 1 : 4;
          number = opcode == 0xC6 ? nextByte() : nextWord();
          refuseIf(reg != 0);
          break;
        case 0xC3:
          kind = RET;
          break;
        case 0xE8:
        case 0xE9:
          kind = opcode == 0xE8 ? CALL : JUMP;
          number = nextWord();
          break;
        case 0xEB:
          kind = JUMP;
          number = (byte) nextByte();
          break;
        case 0xF4:
          kind = HALT;
          break;
        case 0xF7:
          decodeM(UNKNOWN);
          kind = unaryKind(reg);
          number = kind == TEST_NUMBER ? nextWord() : 0;
          break;
        case 0xFF:
          decodeM(UNKNOWN);
          kind = lastKind(reg);
          break;
        default:
          break;
      }
    }

    private static int unaryKind(int n) {
      switch (n) {
        case 0: return TEST_NUMBER;
        case 2: return NOT;
        case 3: return NEG;
        case 4: return MUL;
        case 5: return IMUL;
        case 6: return DIV;
        case 7: return IDIV;
        default: return UNKNOWN;
      }
    }

    private static int lastKind(int n) {
      switch (n) {
        case 0: return INC;
        case 1: return DEC;
        case 2: return CALL_M;
        case 4: return JUMP_M;
        case 6: return PUSH;
        default: return UNKNOWN;
      }
    }

    private void decodeTwo(int two) {
      int upper = two >> 4;
      if (upper == 4) {
        n = two & 15;
        decodeM(MOVE_IF);
      } else if (upper == 8) {
        kind = JUMP_IF;
        n = two & 15;
        number = nextWord();
      } else if (upper == 9) {
        n = two & 15;
        decodeM(PUT_IF);
        width = 1;
        refuseIf(reg != 0);
      } else if (two >= 0xC8 && two <= 0xCF) {
        kind = TURN;
        b = two & 7;
      } else if (two == 0xA3) {
        decodeM(BT);
        refuseIf(mode != REGISTER_MODE);
      } else if (two == 0xAF) {
        decodeM(IMUL_R);
      } else if (two == 0xB6 || two == 0xBE) {
        decodeM(two == 0xB6 ? MOVE_WIDE : MOVE_SIGNED);
        width = 1;
      }
    }
  }

  /** The flags, and what sets them. */
  private static final class Alu {
    static final int C = 1;
    static final int P = 4;
    static final int A = 16;
    static final int Z = 64;
    static final int S = 128;
    static final int O = 2048;
    private static final long LOW = 0xFFFFFFFFL;

    int flags = 0;

    private void note(int flag, boolean on) {
      flags = on ? flags | flag : flags & ~flag;
    }

    /** The flags that a result shows by itself. */
    private static int shownBy(int result) {
      int shown = (Integer.bitCount(result & 255) & 1) == 0 ? P : 0;
      if (result == 0) {
        return shown | Z;
      }
      return result < 0 ? shown | S : shown;
    }

    int sum(int a, int b, int carry) {
      long whole = (a & LOW) + (b & LOW) + carry;
      int result = (int) whole;
      int carried = whole > LOW ? C : 0;
      int half = (a & 15) + (b & 15) + carry > 15 ? A : 0;
      int over = (long) a + b + carry != result ? O : 0;
      flags = carried | half | over | shownBy(result);
      return result;
    }

    int difference(int a, int b, int borrow) {
      long whole = (a & LOW) - (b & LOW) - borrow;
      int result = (int) whole;
      int borrowed = whole < 0 ? C : 0;
      int half = (a & 15) - (b & 15) - borrow < 0 ? A : 0;
      int over = (long) a - b - borrow != result ? O : 0;
      flags = borrowed | half | over | shownBy(result);
      return result;
    }

    int logic(int result) {
      flags = shownBy(result);
      return result;
    }

    /** For cmp the answer is what would be written, were it a sub. */
    int arithmetic(int n, int a, int b) {
      switch (n) {
        case 0: return sum(a, b, 0);
        case 1: return logic(a | b);
        case 2: return sum(a, b, flags & C);
        case 3: return difference(a, b, flags & C);
        case 4: return logic(a & b);
        case 6: return logic(a ^ b);
        default: return difference(a, b, 0);
      }
    }

    int stepBy(int a, boolean up) {
      int carry = flags & C;
      int result = up ? sum(a, 1, 0) : difference(a, 1, 0);
      flags = flags & ~C | carry;
      return result;
    }

    int shift(int n, int v, int by) {
      int result = v;
      for (int k = 0; k < (by & 31); k++) {
        result = n < 4 ? turnOnce(n, result) : shiftOnce(n, result);
      }
      if ((by & 31) != 0 && n >= 4) {
        flags = flags & (C | O) | shownBy(result);
      }
      return result;
    }

    private int turnOnce(int n, int v) {
      boolean up = n == 0;
      int result = up ? v << 1 | v >>> 31 : v >>> 1 | v << 31;
      boolean out = up ? (result & 1) != 0 : result < 0;
      boolean other = up ? result < 0 : (result & 1 << 30) != 0;
      note(C, out);
      note(O, out != other);
      return result;
    }

    private int shiftOnce(int n, int v) {
      boolean up = n == 4;
      boolean out = up ? v < 0 : (v & 1) != 0;
      int result = up ? v << 1 : n == 5 ? v >>> 1 : v >> 1;
      note(C, out);
      note(O, up ? (result < 0) != out : n == 5 && v < 0);
      return result;
    }

    /** Both flags that tell that a product is wider than its lowest 32 bits. */
    void noteWide(boolean wide) {
      note(C, wide);
      note(O, wide);
    }

    void noteBit(int v, int bit) {
      note(C, (v >> (bit & 31) & 1) != 0);
    }

    boolean holds(int c) {
      boolean unlike = (flags & S) != 0 != ((flags & O) != 0);
      boolean on;
      switch (c >> 1) {
        case 0: on = (flags & O) != 0; break;
        case 1: on = (flags & C) != 0; break;
        case 2: on = (flags & Z) != 0; break;
        case 3: on = (flags & (C | Z)) != 0; break;
        case 4: on = (flags & S) != 0; break;
        case 5: on = (flags & P) != 0; break;
        case 6: on = unlike; break;
        default: on = unlike || (flags & Z) != 0; break;
      }
      return on != ((c & 1) != 0);
    }
  }

  /** Registers, memory, and what one instruction does to them. */
  private static final class Processor {
    static final int CODE_START = 65536;
    static final int DATA_START = 131072;
    static final int FIELD = 65536;
    private static final int HALTED = 1;
    private static final int MEMORY = 2;
    private static final int FETCH = 3;
    private static final int STRANGE = 4;
    private static final int DIVIDE = 5;
    private static final int EAX = 0;
    private static final int ECX = 1;
    private static final int EDX = 2;
    private static final int EBX = 3;
    private static final int ESP = 4;
    private static final int EBP = 5;
    private static final int ESI = 6;
    private static final int EDI = 7;
    private static final long LOW = 0xFFFFFFFFL;

    final int[] registers = new int[8];
    final Alu alu = new Alu();
    final byte[] code = new byte[Assembler.LIMIT];
    int codeLength = 0;
    private final byte[] data = new byte[FIELD];
    int eip = CODE_START;
    int stop = 0;
    int leastEbp = 0;
    private final Decoder now = new Decoder(code);
    private int address = 0;
    private int next = 0;

    void takeCode(byte[] bytes, int length) {
      int taken = Math.min(length, Math.min(bytes.length, code.length));
      System.arraycopy(bytes, 0, code, 0, taken);
      codeLength = taken;
    }

    void clearData() {
      Arrays.fill(data, (byte) 0);
    }

    void fillData(byte[] bytes, int length) {
      System.arraycopy(bytes, 0, data, 0, length);
      writeWord(8192, length);
    }

    void fillSets(int[] sets, int sorts) {
      for (int w = 0; w < 8 * sorts && w < sets.length; w++) {
        writeWord(4096 + 4 * w, sets[w]);
      }
    }

    void prepare(int place, int stack) {
      Arrays.fill(registers, 0);
      registers[EBX] = place;
      registers[ESI] = 12288;
      registers[EDI] = 28672;
      registers[EBP] = stack;
      leastEbp = stack;
      alu.flags = 0;
      goTo(0);
    }

    void goTo(int at) {
      eip = CODE_START + at;
      stop = 0;
    }

    int makeSteps(int n) {
      int made = 0;
      while (made < n && stop == 0 && tryStep()) {
        made++;
        if (registers[EBP] < leastEbp) {
          leastEbp = registers[EBP];
        }
      }
      return made;
    }

    private boolean tryStep() {
      int at = eip - CODE_START;
      if (at < 0 || at >= FIELD) {
        stop = FETCH;
        return false;
      }
      now.decode(code, codeLength, at);
      int kind = now.kind;
      if (kind == Decoder.UNKNOWN || kind == Decoder.HALT) {
        stop = kind == Decoder.HALT ? HALTED : STRANGE;
        return false;
      }
      if (now.mode != Decoder.REGISTER_MODE && kind != Decoder.LEA && !findAddress()) {
        stop = MEMORY;
        return false;
      }
      next = eip + now.size;
      if (kind < Decoder.MUL) {
        calculate(kind);
      } else if (kind < Decoder.MOVE_TO_M) {
        calculateLong(kind);
      } else if (kind < Decoder.JUMP) {
        move(kind);
      } else {
        jump(kind);
      }
      if (stop != 0) {
        return false;
      }
      eip = next;
      return true;
    }

    private int sumOfM() {
      int sum = now.disp;
      if (now.base != NONE) {
        sum += registers[now.base];
      }
      if (now.index != NONE) {
        sum += registers[now.index] << now.scale;
      }
      return sum;
    }

    private boolean findAddress() {
      address = sumOfM() - DATA_START;
      return address >= 0 && address <= FIELD - now.width;
    }

    int readWord(int at) {
      return data[at] & 255 | (data[at + 1] & 255) << 8 | (data[at + 2] & 255) << 16
          | data[at + 3] << 24;
    }

    void writeWord(int at, int v) {
      data[at] = (byte) v;
      data[at + 1] = (byte) (v >> 8);
      data[at + 2] = (byte) (v >> 16);
      data[at + 3] = (byte) (v >> 24);
    }

    private int readByteRegister(int r) {
      return (r < 4 ? registers[r] : registers[r - 4] >> 8) & 255;
    }

    private void writeByteRegister(int r, int v) {
      int low = v & 255;
      if (r < 4) {
        registers[r] = registers[r] & ~255 | low;
      } else {
        registers[r - 4] = registers[r - 4] & ~65280 | low << 8;
      }
    }

    private int readM() {
      if (now.mode == Decoder.REGISTER_MODE) {
        return now.width == 1 ? readByteRegister(now.b) : registers[now.b];
      }
      return now.width == 1 ? data[address] & 255 : readWord(address);
    }

    private void writeM(int v) {
      if (now.mode == Decoder.REGISTER_MODE) {
        if (now.width == 1) {
          writeByteRegister(now.b, v);
        } else {
          registers[now.b] = v;
        }
      } else if (now.width == 1) {
        data[address] = (byte) v;
      } else {
        writeWord(address, v);
      }
    }

    private void calculate(int kind) {
      int m = readM();
      switch (kind) {
        case Decoder.ARITH_TO_M:
          writeUnlessCompared(alu.arithmetic(now.n, m, registers[now.reg]));
          break;
        case Decoder.ARITH_TO_R:
          int result = alu.arithmetic(now.n, registers[now.reg], m);
          registers[now.reg] = now.n == 7 ? registers[now.reg] : result;
          break;
        case Decoder.ARITH_NUMBER:
          writeUnlessCompared(alu.arithmetic(now.n, m, now.number));
          break;
        case Decoder.INC:
          writeM(alu.stepBy(m, true));
          break;
        case Decoder.DEC:
          writeM(alu.stepBy(m, false));
          break;
        case Decoder.TEST_R:
          alu.logic(m & registers[now.reg]);
          break;
        case Decoder.TEST_NUMBER:
          alu.logic(m & now.number);
          break;
        case Decoder.NOT:
          writeM(~m);
          break;
        case Decoder.NEG:
          writeM(alu.difference(0, m, 0));
          break;
        case Decoder.SHIFT:
          writeM(alu.shift(now.n, m, now.number));
          break;
        case Decoder.SHIFT_ECX:
          writeM(alu.shift(now.n, m, registers[ECX]));
          break;
        case Decoder.BT:
          alu.noteBit(m, registers[now.reg]);
          break;
        default:
          long product = (long) registers[now.reg] * m;
          registers[now.reg] = (int) product;
          alu.noteWide(product != (int) product);
          break;
      }
    }

    private void writeUnlessCompared(int v) {
      if (now.n != 7) {
        writeM(v);
      }
    }

    private void calculateLong(int kind) {
      int m = kind < Decoder.SIGN ? readM() : 0;
      switch (kind) {
        case Decoder.MUL:
          long product = (registers[EAX] & LOW) * (m & LOW);
          writeLong(product);
          alu.noteWide(registers[EDX] != 0);
          break;
        case Decoder.IMUL:
          long signed = (long) registers[EAX] * m;
          writeLong(signed);
          alu.noteWide(signed != (int) signed);
          break;
        case Decoder.DIV:
          divide(m & LOW);
          break;
        case Decoder.IDIV:
          divideSigned(m);
          break;
        case Decoder.SIGN:
          registers[EDX] = registers[EAX] >> 31;
          break;
        default:
          int v = registers[now.b];
          registers[now.b] = v << 24 | (v & 65280) << 8 | v >> 8 & 65280 | v >>> 24;
          break;
      }
    }

    private void writeLong(long v) {
      registers[EAX] = (int) v;
      registers[EDX] = (int) (v >> 32);
    }

    /** Bit by bit, since a long has no room for 64 bits without a sign. */
    private void divide(long by) {
      long rest = registers[EDX] & LOW;
      if (rest >= by) {
        stop = DIVIDE;
        return;
      }
      int quotient = 0;
      for (int bit = 31; bit >= 0; bit--) {
        rest = rest * 2 + (registers[EAX] >>> bit & 1);
        quotient *= 2;
        if (rest >= by) {
          rest -= by;
          quotient++;
        }
      }
      registers[EAX] = quotient;
      registers[EDX] = (int) rest;
    }

    private void divideSigned(long by) {
      if (by == 0) {
        stop = DIVIDE;
        return;
      }
      long whole = (long) registers[EDX] << 32 | registers[EAX] & LOW;
      long quotient = whole / by;
      if (quotient != (int) quotient) {
        stop = DIVIDE;
        return;
      }
      registers[EAX] = (int) quotient;
      registers[EDX] = (int) (whole - quotient * by);
    }

    private void move(int kind) {
      switch (kind) {
        case Decoder.MOVE_TO_M:
          writeM(now.width == 1 ? readByteRegister(now.reg) : registers[now.reg]);
          break;
        case Decoder.MOVE_TO_R:
          if (now.width == 1) {
            writeByteRegister(now.reg, readM());
          } else {
            registers[now.reg] = readM();
          }
          break;
        case Decoder.MOVE_NUMBER:
          writeM(now.number);
          break;
        case Decoder.EXCHANGE:
          int m = readM();
          writeM(registers[now.reg]);
          registers[now.reg] = m;
          break;
        case Decoder.LEA:
          registers[now.reg] = sumOfM();
          break;
        case Decoder.MOVE_WIDE:
          registers[now.reg] = readM();
          break;
        case Decoder.MOVE_SIGNED:
          registers[now.reg] = (byte) readM();
          break;
        case Decoder.MOVE_IF:
          if (alu.holds(now.n)) {
            registers[now.reg] = readM();
          }
          break;
        case Decoder.PUT_IF:
          writeM(alu.holds(now.n) ? 1 : 0);
          break;
        default:
          break;
      }
    }

    private void jump(int kind) {
      switch (kind) {
        case Decoder.JUMP:
          next += now.number;
          break;
        case Decoder.JUMP_IF:
          next += alu.holds(now.n) ? now.number : 0;
          break;
        case Decoder.JUMP_M:
          next = readM();
          break;
        case Decoder.PUSH:
          push(readM());
          break;
        case Decoder.PUSH_NUMBER:
          push(now.number);
          break;
        case Decoder.POP:
          int popped = pop();
          if (stop == 0) {
            registers[now.b] = popped;
          }
          break;
        case Decoder.CALL:
          push(next);
          next += now.number;
          break;
        case Decoder.CALL_M:
          int goal = readM();
          push(next);
          next = goal;
          break;
        default:
          next = pop();
          break;
      }
    }

    private static boolean holdsWord(int at) {
      return at >= 0 && at <= FIELD - 4;
    }

    private void push(int v) {
      int at = registers[ESP] - 4 - DATA_START;
      if (!holdsWord(at)) {
        stop = MEMORY;
        return;
      }
      writeWord(at, v);
      registers[ESP] -= 4;
    }

    private int pop() {
      int at = registers[ESP] - DATA_START;
      if (!holdsWord(at)) {
        stop = MEMORY;
        return 0;
      }
      registers[ESP] += 4;
      return readWord(at);
    }
  }

  /** Looks through an image by what stands in it alone, for the first refused instruction. */
  private static final class Checker {
    private static final int UNSOUND = 1;
    private static final int SPLIT = 2;
    private static final int BARRED = 3;
    private static final int LOOSE = 4;
    private static final int WILD = 5;
    private static final int ASTRAY = 6;
    private static final int BUNDLE = 32;
    private static final int CODE_SIZE = 65536;
    private static final int DATA_START = 131072;
    private static final int DATA_END = 196608;
    private static final int MASK_LIMIT = 65535;
    private static final int AND = 4;
    private static final int AND_SEEN = 1;
    private static final int ADD_SEEN = 2;

    private final int[] starts = new int[Assembler.LIMIT / 32];
    private final int[] goals = new int[Assembler.LIMIT / 32];
    private final int[] masks = new int[8];
    private final Decoder now = new Decoder(new byte[0]);
    private byte[] code = new byte[0];
    private int length = 0;
    // How much of the row and, add, jmp stands right ahead, and of which register.
    private int chain = 0;
    private int chainRegister = 0;
    private boolean known = false;
    int reason = 0;
    int refusedAt = NONE;

    void forget() {
      known = false;
    }

    void look(byte[] image, int end) {
      if (known) {
        return;
      }
      code = image;
      length = Math.min(end, Assembler.LIMIT);
      known = true;
      reason = 0;
      refusedAt = NONE;
      findGoals();
      findRefused();
    }

    private static boolean hasBit(int[] bits, int at) {
      return (bits[at >> 5] >> (at & 31) & 1) != 0;
    }

    private static void addBit(int[] bits, int at) {
      bits[at >> 5] |= 1 << (at & 31);
    }

    /** Bytes behind the image's end are not the image's, so what needs them is no instruction. */
    private boolean isInstruction(int at) {
      return now.kind != Decoder.UNKNOWN && at + now.size <= length;
    }

    private boolean jumpsByNumber() {
      return now.kind == Decoder.JUMP || now.kind == Decoder.JUMP_IF;
    }

    private void findGoals() {
      Arrays.fill(starts, 0);
      Arrays.fill(goals, 0);
      for (int at = 0; at < length; at += Math.max(1, now.size)) {
        now.decode(code, length, at);
        if (!isInstruction(at)) {
          return;
        }
        addBit(starts, at);
        int goal = at + now.size + now.number;
        if (jumpsByNumber() && goal >= 0 && goal < length) {
          addBit(goals, goal);
        }
      }
    }

    private void findRefused() {
      dropAll();
      for (int at = 0; at < length; at += Math.max(1, now.size)) {
        now.decode(code, length, at);
        if (at % BUNDLE == 0 || hasBit(goals, at)) {
          dropAll();
        }
        reason = reasonAt(at);
        if (reason != 0) {
          refusedAt = at;
          return;
        }
        noteChain();
        noteMasks();
      }
    }

    private void dropAll() {
      Arrays.fill(masks, NONE);
      chain = 0;
    }

    private int reasonAt(int at) {
      if (!isInstruction(at)) {
        return UNSOUND;
      }
      if (at / BUNDLE != (at + now.size - 1) / BUNDLE) {
        return SPLIT;
      }
      boolean inMemory = now.mode != Decoder.REGISTER_MODE;
      if (now.kind >= Decoder.PUSH || now.kind == Decoder.JUMP_M && inMemory) {
        return BARRED;
      }
      if (inMemory && now.kind != Decoder.LEA && !isConfined()) {
        return LOOSE;
      }
      if (now.kind == Decoder.JUMP_M && (chain != ADD_SEEN || chainRegister != now.b)) {
        return WILD;
      }
      if (jumpsByNumber() && !leadsWell(at + now.size + now.number)) {
        return ASTRAY;
      }
      return 0;
    }

    private boolean isConfined() {
      if (now.third || now.disp < DATA_START) {
        return false;
      }
      if (now.base == NONE) {
        return now.disp <= DATA_END - now.width;
      }
      int mask = masks[now.base];
      return mask != NONE && now.disp <= DATA_END - now.width - mask;
    }

    private boolean leadsWell(int goal) {
      if (goal >= 0 && goal < length) {
        return hasBit(starts, goal);
      }
      return goal >= length && goal < CODE_SIZE;
    }

    private void noteChain() {
      boolean whole = now.opcode == 0x81 && now.mode == Decoder.REGISTER_MODE;
      if (whole && now.n == AND && now.number >= 0 && now.number <= 65504 && now.number % 32 == 0) {
        chain = AND_SEEN;
        chainRegister = now.b;
      } else if (whole && now.n == 0 && now.number == 65536 && chain == AND_SEEN
          && chainRegister == now.b) {
        chain = ADD_SEEN;
      } else {
        chain = 0;
      }
    }

    private void noteMasks() {
      switch (now.kind) {
        case Decoder.ARITH_TO_M:
        case Decoder.ARITH_NUMBER:
          if (now.n != 7) {
            dropM();
          }
          keepMask();
          break;
        case Decoder.ARITH_TO_R:
          if (now.n != 7) {
            masks[now.reg] = NONE;
          }
          break;
        case Decoder.IMUL_R:
        case Decoder.LEA:
        case Decoder.MOVE_WIDE:
        case Decoder.MOVE_SIGNED:
        case Decoder.MOVE_IF:
          masks[now.reg] = NONE;
          break;
        case Decoder.MOVE_TO_R:
          masks[now.width == 1 ? now.reg & 3 : now.reg] = NONE;
          break;
        case Decoder.EXCHANGE:
          masks[now.reg] = NONE;
          dropM();
          break;
        case Decoder.MUL:
        case Decoder.IMUL:
        case Decoder.DIV:
        case Decoder.IDIV:
          masks[0] = NONE;
          masks[2] = NONE;
          break;
        case Decoder.SIGN:
          masks[2] = NONE;
          break;
        case Decoder.INC:
        case Decoder.DEC:
        case Decoder.NOT:
        case Decoder.NEG:
        case Decoder.SHIFT:
        case Decoder.SHIFT_ECX:
        case Decoder.TURN:
        case Decoder.MOVE_TO_M:
        case Decoder.MOVE_NUMBER:
        case Decoder.PUT_IF:
          dropM();
          break;
        default:
          break;
      }
    }

    private void dropM() {
      if (now.mode == Decoder.REGISTER_MODE) {
        masks[now.width == 1 ? now.b & 3 : now.b] = NONE;
      }
    }

    private void keepMask() {
      boolean masking = now.kind == Decoder.ARITH_NUMBER && now.n == AND
          && now.mode == Decoder.REGISTER_MODE;
      if (masking && now.number >= 0 && now.number <= MASK_LIMIT) {
        masks[now.b] = now.number;
      }
    }
  }

  /** What is kept of the latest match, apart from the processor, which goes on. */
  private static final class Outcome {
    private static final int NO = -2;
    private static final int OVER = -3;
    private static final int UNENDED = -4;

    final int[] codes = new int[STACK_LIMIT];
    final int[] places = new int[STACK_LIMIT];
    int events = 0;
    int most = 0;
    int taken = 0;

    void note(Processor ran, int place, int stack) {
      int answer = ran.registers[0];
      most = Math.min(stack, stack - ran.leastEbp);
      events = 0;
      if (ran.stop == 0) {
        taken = UNENDED;
      } else if (answer < 0) {
        taken = answer == -1 ? NO : OVER;
      } else {
        taken = answer - place;
        noteEvents(ran, (ran.registers[7] - 28672) / 8);
      }
    }

    private void noteEvents(Processor ran, int made) {
      for (int i = 0; i < made && i < STACK_LIMIT; i++) {
        codes[i] = ran.readWord(28672 + 8 * i);
        places[i] = ran.readWord(28676 + 8 * i);
        events++;
      }
    }
  }
}
