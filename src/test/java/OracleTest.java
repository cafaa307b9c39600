import java.util.ArrayList;
import java.util.Arrays;
import java.util.HashMap;
import java.util.List;
import java.util.Map;
import java.util.Random;

/**
 * Random grammars against a second reading of the document, written apart from the class: trees
 * with many parts, a program by labels, an image by the document's own lines, a machine that runs
 * the program, and what a grammar means by itself.
 */
public final class OracleTest {
  private static final Dues DUES = new Dues("OracleTest");
  private static final String[] KINDS = {"CHAR", "SET", "ANY", "SPAN", "TESTCHAR", "TESTSET",
      "TESTANY", "JUMP", "CHOICE", "COMMIT", "PARTIAL", "BACKCOMMIT", "FAILTWICE", "FAIL", "CALL",
      "RET", "OPEN", "CLOSE", "END"};

  public static void main(String[] args) {
    int rounds = args.length > 0 ? Integer.parseInt(args[0]) : 6000;
    long seed = args.length > 1 ? Long.parseLong(args[1]) : 1;
    int[] seen = new int[6];
    int[] results = new int[5];
    MatchHouse house = null;
    for (int k = 0; k < rounds && DUES.wrong() == 0; k++) {
      // What an older grammar left must not show, so a house has many; a new one now and then.
      house = k % 50 == 0 ? new MatchHouse() : house;
      Round round = new Round(new Random(seed * 1000003 + k));
      seen[round.play(house, results)]++;
    }
    System.out.println("kinds of faults: " + Arrays.toString(seen) + ", taken / no / over / long: "
        + Arrays.toString(results));
    for (int kind = 0; kind <= 4; kind++) {
      if (kind != 1 && seen[kind] == 0) {
        DUES.due("a round with a fault of kind " + kind, 0, 1);
      }
    }
    DUES.finish();
  }

  /** What stands in a rule, with as many parts as the text has. */
  private static final class Node {
    final char kind;
    final List<Node> parts = new ArrayList<>();
    boolean[] bytes;
    int number;
    int at;

    Node(char kind, Node... all) {
      this.kind = kind;
      parts.addAll(Arrays.asList(all));
    }

    Node one() {
      return parts.get(0);
    }
  }

  private static Node plain(boolean[] bytes) {
    Node node = new Node('P');
    node.bytes = bytes;
    return node;
  }

  private static Node row(List<Node> parts) {
    return parts.size() == 1 ? parts.get(0) : new Node('S', parts.toArray(new Node[0]));
  }

  private static Node choice(List<Node> parts) {
    List<Node> joined = new ArrayList<>();
    for (Node part : parts) {
      Node last = joined.isEmpty() ? null : joined.get(joined.size() - 1);
      if (last != null && last.kind == 'P' && part.kind == 'P') {
        boolean[] both = last.bytes.clone();
        for (int b = 0; b < 256; b++) {
          both[b] |= part.bytes[b];
        }
        joined.set(joined.size() - 1, plain(both));
      } else {
        joined.add(part);
      }
    }
    return joined.size() == 1 ? joined.get(0) : new Node('C', joined.toArray(new Node[0]));
  }

  /** Writes a random text and keeps what it means beside it. */
  static final class Writer {
    final Random random;
    final StringBuilder text = new StringBuilder();
    final int rules;
    final String[] names;
    final int[] ruleAt;
    final Node[] roots;
    final boolean wild;
    final boolean wide;
    final List<String> ruleNames = new ArrayList<>();
    final Map<Integer, String> used = new HashMap<>();
    int captures = 0;
    int unbound = -1;

    Writer(Random random) {
      this.random = random;
      rules = 1 + random.nextInt(random.nextInt(4) == 0 ? 9 : 4);
      names = new String[rules];
      ruleAt = new int[rules];
      roots = new Node[rules];
      wild = random.nextInt(5) == 0;
      wide = random.nextInt(3) == 0;
      for (int k = 0; k < rules; k++) {
        names[k] = (char) ('a' + k) + (random.nextBoolean() ? "" : "_" + random.nextInt(30));
      }
    }

    void write() {
      boolean twice = random.nextInt(40) == 0;
      for (int k = 0; k < rules; k++) {
        blanks();
        ruleAt[k] = text.length();
        int named = twice && k > 0 ? random.nextInt(k + 1) : k;
        if (ruleNames.contains(names[named])) {
          blame(ruleAt[k]);
        }
        ruleNames.add(names[named]);
        text.append(names[named]);
        blanks();
        text.append('=');
        roots[k] = choiceOf(4, k);
        text.append(';');
        blanks();
      }
      for (Map.Entry<Integer, String> use : used.entrySet()) {
        if (!ruleNames.contains(use.getValue())) {
          blame(use.getKey());
        }
      }
    }

    void blame(int at) {
      if (unbound < 0 || at < unbound) {
        unbound = at;
      }
    }

    void blanks() {
      int many = random.nextInt(5) == 0 ? random.nextInt(3) : 0;
      for (int k = 0; k < many; k++) {
        switch (random.nextInt(6)) {
          case 0: text.append('\n'); break;
          case 1: text.append('\t'); break;
          case 2: text.append('\r'); break;
          case 3: text.append("#'[(\u00e9\n"); break;
          default: text.append(' '); break;
        }
      }
    }

    Node choiceOf(int deep, int rule) {
      List<Node> parts = new ArrayList<>();
      int many = 1 + (random.nextInt(3) == 0 ? random.nextInt(4) : 0);
      for (int k = 0; k < many; k++) {
        if (k > 0) {
          text.append('/');
        }
        blanks();
        parts.add(sequenceOf(deep, rule));
        blanks();
      }
      return choice(parts);
    }

    Node sequenceOf(int deep, int rule) {
      List<Node> parts = new ArrayList<>();
      int many = random.nextInt(12) == 0 ? 0 : 1 + random.nextInt(3);
      for (int k = 0; k < many; k++) {
        parts.add(prefixOf(deep, rule, k == 0));
        text.append(' ');
        blanks();
      }
      return row(parts);
    }

    Node prefixOf(int deep, int rule, boolean first) {
      List<Character> signs = new ArrayList<>();
      for (int k = 0; k < 2 && random.nextInt(8) == 0; k++) {
        char sign = random.nextBoolean() ? '&' : '!';
        signs.add(sign);
        text.append(sign);
        blanks();
      }
      Node node = suffixOf(primaryOf(deep, rule, first));
      for (int k = signs.size() - 1; k >= 0; k--) {
        node = new Node(signs.get(k), node);
      }
      return node;
    }

    Node suffixOf(Node primary) {
      Node node = primary;
      int many = random.nextInt(3) == 0 ? 1 + random.nextInt(random.nextInt(6) == 0 ? 3 : 1) : 0;
      for (int k = 0; k < many; k++) {
        blanks();
        int at = text.length();
        char sign = "?*+^".charAt(random.nextInt(4));
        text.append(sign);
        if (sign == '^') {
          int n = 1 + random.nextInt(k == 0 ? 4 : 2);
          text.append(n);
          List<Node> parts = new ArrayList<>();
          for (int i = 0; i < n; i++) {
            parts.add(node);
          }
          node = row(parts);
        } else {
          node = new Node(sign, node);
          node.at = at;
        }
      }
      return node;
    }

    Node primaryOf(int deep, int rule, boolean first) {
      int pick = random.nextInt(deep > 0 ? 12 : 7);
      if (pick < 3) {
        return literal();
      }
      if (pick < 5) {
        return classOf();
      }
      if (pick == 5) {
        if (random.nextInt(3) != 0) {
          return literal();
        }
        text.append('.');
        boolean[] all = new boolean[256];
        Arrays.fill(all, true);
        return plain(all);
      }
      if (pick < 8) {
        return name(rule, first);
      }
      boolean capture = pick > 9;
      int number = captures;
      captures += capture ? 1 : 0;
      text.append(capture ? '{' : '(');
      Node inner = choiceOf(deep - 1, rule);
      text.append(capture ? '}' : ')');
      if (!capture) {
        return inner;
      }
      Node node = new Node('{', inner);
      node.number = number;
      return node;
    }

    Node name(int rule, boolean first) {
      Node node = new Node('N');
      node.at = text.length();
      // Mostly ahead, so that not all grammars are left.
      boolean ahead = first && !wild || random.nextInt(3) != 0;
      if (ahead && rule + 1 >= rules) {
        return literal();
      }
      node.number = ahead ? rule + 1 + random.nextInt(rules - rule - 1) : random.nextInt(rules);
      if (random.nextInt(200) == 0) {
        used.put(node.at, "zz");
        text.append("zz");
        node.number = 0;
        return node;
      }
      used.put(node.at, names[node.number]);
      text.append(names[node.number]);
      return node;
    }

    Node literal() {
      int many = random.nextInt(10) == 0 ? 0 : 1 + random.nextInt(random.nextInt(4) == 0 ? 4 : 2);
      boolean[][] all = new boolean[many][256];
      text.append('\'');
      for (int k = 0; k < many; k++) {
        all[k][oneByte(false)] = true;
      }
      text.append('\'');
      if (random.nextInt(4) == 0) {
        text.append('i');
        for (boolean[] one : all) {
          for (int c = 'a'; c <= 'z'; c++) {
            boolean both = one[c] || one[c - 32];
            one[c] = both;
            one[c - 32] = both;
          }
        }
      }
      List<Node> parts = new ArrayList<>();
      for (boolean[] one : all) {
        parts.add(plain(one));
      }
      return row(parts);
    }

    Node classOf() {
      boolean[] set = new boolean[256];
      text.append('[');
      boolean others = random.nextInt(6) == 0;
      text.append(others ? "^" : "");
      int many = random.nextInt(8) == 0 ? 0 : 1 + random.nextInt(3);
      for (int k = 0; k < many; k++) {
        int low = oneByte(true);
        set[low] = true;
        if (random.nextInt(3) == 0) {
          text.append('-');
          int mark = text.length();
          int high = oneByte(true);
          for (int tries = 0; high < low && tries < 50; tries++) {
            text.setLength(mark);
            high = oneByte(true);
          }
          if (high < low) {
            text.setLength(mark);
            text.append("\\xff");
            high = 255;
          }
          for (int b = low; b <= high; b++) {
            set[b] = true;
          }
        }
      }
      text.append(']');
      for (int b = 0; b < 256; b++) {
        set[b] ^= others;
      }
      return plain(set);
    }

    int oneByte(boolean inClass) {
      if (random.nextInt(10) == 0) {
        int pick = random.nextInt(8);
        text.append('\\').append("ntr']-\\^".charAt(pick));
        return "\n\t\r']-\\^".charAt(pick);
      }
      if (wide && random.nextInt(4) == 0) {
        int b = random.nextInt(256);
        text.append(String.format("\\x%02x", b));
        return b;
      }
      char c = "abcabcAB-^]'".charAt(random.nextInt(random.nextInt(5) == 0 ? 12 : 7));
      boolean bad = inClass ? c == '-' || c == ']' || c == '^' : c == '\'';
      c = bad ? 'b' : c;
      text.append(c);
      return c;
    }
  }

  /** One instruction; its target is a label until all is written. */
  private static final class Step {
    String op;
    int arg;
    int[] label;
    boolean[] set;

    Step(String op, int arg, int[] label) {
      this.op = op;
      this.arg = arg;
      this.label = label;
    }
  }

  private static final class Round {
    final Random random;
    final Writer writer;
    final Map<Node, boolean[]> firstOf = new HashMap<>();
    final boolean[][] facts;
    final List<Step> program = new ArrayList<>();
    final List<boolean[]> sets = new ArrayList<>();
    int[] starts;

    Round(Random random) {
      this.random = random;
      writer = new Writer(random);
      writer.write();
      facts = new boolean[3][writer.rules];
    }

    int play(MatchHouse house, int[] results) {
      String text = writer.text.toString();
      if (text.length() > 4000) {
        return 5;
      }
      int answer = Dues.grammar(house, text);
      int kind = writer.unbound >= 0 ? 2 : 0;
      int place = writer.unbound;
      if (kind == 0) {
        findFacts();
        place = leftAt();
        kind = place >= 0 ? 3 : 0;
      }
      if (kind == 0) {
        place = endlessAt();
        kind = place >= 0 ? 4 : 0;
      }
      if (kind == 0) {
        makeProgram();
        if (program.size() > 2000 || sets.size() > 128) {
          kind = 5;
          place = text.length();
        }
      }
      Image image = kind == 0 ? new Image(program) : null;
      if (kind == 0 && image.bytes.length > 61440) {
        kind = 5;
        place = text.length();
      }
      DUES.due("grammar " + text, answer, kind == 0 ? writer.rules : -1);
      DUES.due("fault(0) of " + text, house.fault(0), kind);
      DUES.due("fault(1) of " + text, house.fault(1), place);
      if (kind != 0 || DUES.wrong() > 0) {
        return kind;
      }
      compareRules(house, text);
      compareProgram(house, text, image);
      for (int k = 0; k < 6; k++) {
        compareMatch(house, text, results);
      }
      return 0;
    }

    // ---- facts: 0 NULLABLE, 1 SURE, 2 NOFAIL

    void findFacts() {
      for (boolean more = true; more;) {
        more = false;
        for (int what = 0; what < 3; what++) {
          for (int k = 0; k < writer.rules; k++) {
            if (!facts[what][k] && is(what, writer.roots[k])) {
              facts[what][k] = true;
              more = true;
            }
          }
        }
      }
    }

    boolean all(int what, List<Node> parts) {
      for (Node part : parts) {
        if (!is(what, part)) {
          return false;
        }
      }
      return true;
    }

    boolean some(int what, List<Node> parts) {
      for (Node part : parts) {
        if (is(what, part)) {
          return true;
        }
      }
      return false;
    }

    boolean is(int what, Node e) {
      switch (e.kind) {
        case 'P': return what == 1;
        case 'S':
          if (what != 1) {
            return all(what, e.parts);
          }
          return !e.parts.isEmpty() && is(1, e.one())
              && all(2, e.parts.subList(1, e.parts.size()));
        case 'C': return what == 1 ? all(1, e.parts) : some(what, e.parts);
        case '?':
        case '*': return what != 1;
        case '+': return what != 2 && is(what, e.one());
        case '&':
        case '!': return what == 0;
        case '{': return is(what, e.one());
        default: return facts[what][e.number];
      }
    }

    void begins(Node e, boolean[] seen) {
      if (e.kind == 'N') {
        seen[e.number] = true;
      }
      for (Node part : e.parts) {
        begins(part, seen);
        if (e.kind == 'S' && !is(0, part)) {
          return;
        }
      }
    }

    int leftAt() {
      for (int k = 0; k < writer.rules; k++) {
        boolean[] seen = new boolean[writer.rules];
        begins(writer.roots[k], seen);
        for (int pass = 0; pass < writer.rules; pass++) {
          boolean[] before = seen.clone();
          for (int j = 0; j < writer.rules; j++) {
            if (before[j]) {
              begins(writer.roots[j], seen);
            }
          }
        }
        if (seen[k]) {
          return writer.ruleAt[k];
        }
      }
      return -1;
    }

    int endlessAt() {
      int place = -1;
      for (Node root : writer.roots) {
        int at = endlessIn(root);
        if (at >= 0 && (place < 0 || at < place)) {
          place = at;
        }
      }
      return place;
    }

    int endlessIn(Node e) {
      int place = -1;
      if ((e.kind == '*' || e.kind == '+') && is(0, e.one())) {
        place = e.at;
      }
      for (Node part : e.parts) {
        int at = endlessIn(part);
        if (at >= 0 && (place < 0 || at < place)) {
          place = at;
        }
      }
      return place;
    }

    boolean[] first(Node e) {
      boolean[] known = firstOf.get(e);
      if (known != null) {
        return known;
      }
      boolean[] found = new boolean[256];
      switch (e.kind) {
        case 'P': join(found, e.bytes); break;
        case 'N': join(found, first(writer.roots[e.number])); break;
        case '&':
        case '!': break;
        default:
          for (Node part : e.parts) {
            join(found, first(part));
            if (e.kind == 'S' && !is(0, part)) {
              break;
            }
          }
          break;
      }
      firstOf.put(e, found);
      return found;
    }

    static void join(boolean[] to, boolean[] from) {
      for (int b = 0; b < 256; b++) {
        to[b] |= from[b];
      }
    }

    // ---- the program

    void makeProgram() {
      int[][] ruleLabels = new int[writer.rules][1];
      add("CALL", 0, ruleLabels[0]);
      add("END", 0, null);
      starts = new int[writer.rules];
      for (int k = 0; k < writer.rules; k++) {
        mark(ruleLabels[k]);
        starts[k] = program.size();
        emit(writer.roots[k], ruleLabels);
        add("RET", 0, null);
        if (program.size() > 100000) {
          return;
        }
      }
      stepA();
      stepB();
      for (int i = 0; i + 1 < program.size(); i++) {
        if (program.get(i).op.equals("CALL") && program.get(i + 1).op.equals("RET")) {
          program.get(i).op = "JUMP";
        }
      }
      stepA();
      stepB();
      for (Step step : program) {
        if (step.set != null) {
          step.arg = -1;
          for (int s = 0; s < sets.size(); s++) {
            if (Arrays.equals(sets.get(s), step.set)) {
              step.arg = s;
            }
          }
          if (step.arg < 0) {
            step.arg = sets.size();
            sets.add(step.set);
          }
        }
      }
    }

    void stepA() {
      for (Step step : program) {
        while (step.label != null && program.get(step.label[0]).op.equals("JUMP")) {
          step.label = program.get(step.label[0]).label;
        }
      }
    }

    void stepB() {
      for (Step step : program) {
        if (step.op.equals("JUMP")) {
          String there = program.get(step.label[0]).op;
          if (there.equals("RET") || there.equals("FAIL")) {
            step.op = there;
            step.label = null;
          }
        }
      }
    }

    Step add(String op, int arg, int[] label) {
      Step step = new Step(op, arg, label);
      program.add(step);
      return step;
    }

    void mark(int[] label) {
      label[0] = program.size();
    }

    void byBytes(String prefix, boolean[] bytes, int[] label) {
      int many = 0;
      int last = 0;
      for (int b = 0; b < 256; b++) {
        if (bytes[b]) {
          many++;
          last = b;
        }
      }
      if (many == 1) {
        add(prefix + "CHAR", last, label);
      } else if (many == 256) {
        add(prefix + "ANY", 0, label);
      } else {
        add(prefix + "SET", 0, label).set = bytes;
      }
    }

    void test(Node e, int[] label) {
      byBytes("TEST", first(e), label);
    }

    void testUnlessNullable(Node e, int[] label) {
      if (!is(0, e)) {
        test(e, label);
      }
    }

    void emit(Node e, int[][] rules) {
      if (program.size() > 100000) {
        return;
      }
      switch (e.kind) {
        case 'P': byBytes("", e.bytes, null); break;
        case 'S':
          for (Node part : e.parts) {
            emit(part, rules);
          }
          break;
        case 'N': add("CALL", 0, rules[e.number]); break;
        case '{':
          add("OPEN", e.number, null);
          emit(e.one(), rules);
          add("CLOSE", e.number, null);
          break;
        case 'C': emitChoice(e.parts, rules); break;
        case '?': emitOption(e.one(), rules); break;
        case '*': emitStar(e.one(), rules); break;
        case '+':
          emit(e.one(), rules);
          emitStar(e.one(), rules);
          break;
        case '!': emitNot(e.one(), rules); break;
        default: emitAnd(e.one(), rules); break;
      }
    }

    void emitChoice(List<Node> parts, int[][] rules) {
      Node e = parts.get(0);
      List<Node> rest = parts.subList(1, parts.size());
      Node others = rest.size() == 1 ? rest.get(0) : new Node('C', rest.toArray(new Node[0]));
      boolean common = false;
      for (int b = 0; b < 256; b++) {
        common |= first(e)[b] && first(others)[b];
      }
      int[] one = new int[1];
      int[] two = new int[1];
      if (is(1, e) || !is(0, e) && !is(0, others) && !common) {
        test(e, one);
        emit(e, rules);
        add("JUMP", 0, two);
      } else {
        testUnlessNullable(e, one);
        add("CHOICE", 0, one);
        emit(e, rules);
        add("COMMIT", 0, two);
      }
      mark(one);
      emit(others, rules);
      mark(two);
    }

    void emitOption(Node e, int[][] rules) {
      int[] one = new int[1];
      if (is(1, e)) {
        test(e, one);
        emit(e, rules);
      } else {
        testUnlessNullable(e, one);
        add("CHOICE", 0, one);
        emit(e, rules);
        add("COMMIT", 0, one);
      }
      mark(one);
    }

    void emitStar(Node e, int[][] rules) {
      int[] one = new int[1];
      int[] two = new int[1];
      if (e.kind == 'P') {
        add("SPAN", 0, null).set = e.bytes;
      } else if (is(1, e)) {
        mark(one);
        test(e, two);
        emit(e, rules);
        add("JUMP", 0, one);
      } else {
        test(e, two);
        add("CHOICE", 0, two);
        mark(one);
        emit(e, rules);
        add("PARTIAL", 0, one);
      }
      mark(two);
    }

    void emitNot(Node e, int[][] rules) {
      int[] one = new int[1];
      if (is(1, e)) {
        test(e, one);
        add("FAIL", 0, null);
      } else {
        testUnlessNullable(e, one);
        add("CHOICE", 0, one);
        emit(e, rules);
        add("FAILTWICE", 0, null);
      }
      mark(one);
    }

    void emitAnd(Node e, int[][] rules) {
      int[] one = new int[1];
      int[] two = new int[1];
      if (is(1, e)) {
        test(e, one);
        add("JUMP", 0, two);
      } else {
        testUnlessNullable(e, one);
        add("CHOICE", 0, one);
        emit(e, rules);
        add("BACKCOMMIT", 0, two);
      }
      mark(one);
      add("FAIL", 0, null);
      mark(two);
    }

    // ---- comparisons

    void compareRules(MatchHouse house, String text) {
      DUES.due("count(0) of " + text, house.count(0), writer.rules);
      DUES.due("count(4) of " + text, house.count(4), writer.captures);
      for (int k = 0; k < writer.rules; k++) {
        for (int what = 0; what < 3; what++) {
          DUES.due("rule(" + k + ", " + what + ") of " + text, house.rule(k, what),
              facts[what][k] ? 1 : 0);
        }
        DUES.due("rule(" + k + ", 3) of " + text, house.rule(k, 3), starts[k]);
        for (int w = 0; w < 8; w++) {
          DUES.due("rule(" + k + ", " + (w + 4) + ") of " + text, house.rule(k, w + 4),
              word(first(writer.roots[k]), w));
        }
      }
    }

    static int word(boolean[] bytes, int w) {
      int bits = 0;
      for (int b = 0; b < 32; b++) {
        bits |= bytes[32 * w + b] ? 1 << b : 0;
      }
      return bits;
    }

    void compareProgram(MatchHouse house, String text, Image image) {
      DUES.due("count(1) of " + text, house.count(1), program.size());
      DUES.due("count(2) of " + text, house.count(2), sets.size());
      for (int i = 0; i < program.size() && DUES.wrong() == 0; i++) {
        Step step = program.get(i);
        String call = "program(" + i + ") of " + text + " what ";
        DUES.due(call + 0, house.program(i, 0), Arrays.asList(KINDS).indexOf(step.op));
        DUES.due(call + 1, house.program(i, 1), step.arg);
        DUES.due(call + 2, house.program(i, 2), step.label == null ? -1 : step.label[0]);
        DUES.due(call + 3, house.program(i, 3), image.places.get("L" + i));
      }
      for (int s = 0; s < sets.size(); s++) {
        for (int w = 0; w < 8; w++) {
          DUES.due("set(" + s + ", " + w + ") of " + text, house.set(s, w), word(sets.get(s), w));
        }
      }
      DUES.due("count(3) of " + text, house.count(3), image.bytes.length);
      for (int i = 0; i < image.bytes.length && DUES.wrong() == 0; i++) {
        DUES.due("image(" + i + ") of " + text, house.image(i), image.bytes[i] & 255);
      }
    }

    void compareMatch(MatchHouse house, String text, int[] results) {
      int length = random.nextInt(random.nextInt(3) == 0 ? 40 : 8);
      StringBuilder subject = new StringBuilder();
      for (int k = 0; k < length; k++) {
        boolean strange = writer.wide && random.nextInt(5) == 0;
        subject.append(strange ? (char) random.nextInt(256)
            : "abcabcabcABC\n\t^]".charAt(random.nextInt(16)));
      }
      Dues.subject(house, subject.toString());
      int place = random.nextInt(4) == 0 ? random.nextInt(length + 1) : 0;
      int stack = random.nextInt(3) == 0 ? 1 + random.nextInt(12) : 1000;
      String call = "match(" + place + ", " + stack + ") of " + text + " on " + subject;
      int answer = house.match(place, stack);
      DUES.due("check(0), armed, of " + text, house.check(0), 0);
      if (answer == -4) {
        results[3]++;
        return;
      }
      byte[] bytes = Dues.bytes(subject.toString());
      Machine machine = new Machine(program, sets, bytes);
      int due = machine.run(place, stack);
      DUES.due(call, answer, due);
      DUES.due(call + " peak", house.peak(), machine.peak);
      int events = due >= 0 ? machine.events.size() : 0;
      for (int i = 0; i < events; i++) {
        int[] event = machine.events.get(i);
        for (int what = 0; what < 3; what++) {
          DUES.due(call + " event " + i, house.event(i, what), event[what]);
        }
      }
      DUES.due(call + " event " + events, house.event(events, 0), -1);
      results[due >= 0 ? 0 : due == -2 ? 1 : 2]++;
      if (due != -3) {
        Meaning meaning = new Meaning(writer.roots, bytes);
        int end = meaning.at(writer.roots[0], place);
        DUES.due(call + " by meaning", due, end < 0 ? -2 : end - place);
        for (int i = 0; end >= 0 && i < meaning.events.size() && i < events; i++) {
          for (int what = 0; what < 3; what++) {
            DUES.due(call + " event " + i + " by meaning", machine.events.get(i)[what],
                meaning.events.get(i)[what]);
          }
        }
        DUES.due(call + " events by meaning", events, end < 0 ? 0 : meaning.events.size());
      }
    }
  }

  /** Part III, as it stands. */
  private static final class Meaning {
    final Node[] roots;
    final byte[] subject;
    final List<int[]> events = new ArrayList<>();

    Meaning(Node[] roots, byte[] subject) {
      this.roots = roots;
      this.subject = subject;
    }

    void back(int many) {
      while (events.size() > many) {
        events.remove(events.size() - 1);
      }
    }

    int at(Node e, int place) {
      int many = events.size();
      int end = tried(e, place);
      if (end < 0) {
        back(many);
      }
      return end;
    }

    int tried(Node e, int place) {
      int many = events.size();
      switch (e.kind) {
        case 'P':
          return place < subject.length && e.bytes[subject[place] & 255] ? place + 1 : -1;
        case 'S':
          int end = place;
          for (Node part : e.parts) {
            end = end < 0 ? -1 : at(part, end);
          }
          return end;
        case 'C':
          for (Node part : e.parts) {
            int taken = at(part, place);
            if (taken >= 0) {
              return taken;
            }
          }
          return -1;
        case '?': return Math.max(place, at(e.one(), place));
        case '+':
        case '*':
          int now = e.kind == '*' ? place : at(e.one(), place);
          for (int next = now; next >= 0;) {
            now = next;
            next = at(e.one(), now);
          }
          return now;
        case '&':
        case '!':
          boolean took = at(e.one(), place) >= 0;
          back(many);
          return took == (e.kind == '&') ? place : -1;
        case '{':
          events.add(new int[] {e.number, 0, place});
          int close = at(e.one(), place);
          events.add(new int[] {e.number, 1, close});
          return close;
        default: return at(roots[e.number], place);
      }
    }
  }

  /** Part IV's RUN, with the meter. */
  private static final class Machine {
    final List<Step> program;
    final List<boolean[]> sets;
    final byte[] subject;
    List<int[]> events = new ArrayList<>();
    // An entry: where it goes, the place (-1 for a return), how many events.
    final List<int[]> entries = new ArrayList<>();
    int peak = 0;

    Machine(List<Step> program, List<boolean[]> sets, byte[] subject) {
      this.program = program;
      this.sets = sets;
      this.subject = subject;
    }

    int[] last() {
      return entries.get(entries.size() - 1);
    }

    int[] drop() {
      return entries.remove(entries.size() - 1);
    }

    void keep(int many) {
      while (events.size() > many) {
        events.remove(events.size() - 1);
      }
    }

    int run(int start, int stack) {
      int place = start;
      int i = 0;
      while (true) {
        Step step = program.get(i);
        int next = place < subject.length ? subject[place] & 255 : -1;
        boolean fits = next >= 0;
        if (step.op.endsWith("CHAR")) {
          fits = next == step.arg;
        } else if (step.set != null) {
          fits = next >= 0 && sets.get(step.arg)[next];
        }
        boolean fail = false;
        int goal = i + 1;
        switch (step.op) {
          case "CHAR":
          case "SET":
          case "ANY":
            fail = !fits;
            place++;
            break;
          case "SPAN":
            while (place < subject.length && sets.get(step.arg)[subject[place] & 255]) {
              place++;
            }
            break;
          case "TESTCHAR":
          case "TESTSET":
          case "TESTANY":
            goal = fits ? i + 1 : step.label[0];
            break;
          case "JUMP": goal = step.label[0]; break;
          case "CHOICE": entries.add(new int[] {step.label[0], place, events.size()}); break;
          case "COMMIT":
            drop();
            goal = step.label[0];
            break;
          case "PARTIAL":
            last()[1] = place;
            last()[2] = events.size();
            goal = step.label[0];
            break;
          case "BACKCOMMIT":
            place = last()[1];
            keep(drop()[2]);
            goal = step.label[0];
            break;
          case "FAILTWICE":
            drop();
            fail = true;
            break;
          case "FAIL": fail = true; break;
          case "CALL":
            entries.add(new int[] {i + 1, -1, 0});
            goal = step.label[0];
            break;
          case "RET": goal = drop()[0]; break;
          case "OPEN": events.add(new int[] {step.arg, 0, place}); break;
          case "CLOSE": events.add(new int[] {step.arg, 1, place}); break;
          default: return place - start;
        }
        if (fail) {
          while (!entries.isEmpty() && last()[1] < 0) {
            drop();
          }
          if (entries.isEmpty()) {
            return -2;
          }
          place = last()[1];
          keep(last()[2]);
          goal = drop()[0];
        }
        int meter = entries.size() + events.size();
        peak = Math.max(peak, Math.min(meter, stack));
        if (meter > stack) {
          return -3;
        }
        i = goal;
      }
    }
  }

  /** Part VII: the document's lines, read by a small assembler. */
  private static final class Image {
    static final Map<String, String> LINES = new HashMap<>();

    static {
      LINES.put("NEXT", "cmp ebx, [139264]; jae F; mov eax, ebx; ( and eax, 65535; movzx eax, [eax+131072] )");
      LINES.put("IN", "mov ecx, eax; shr eax, 5; lea eax, [eax*4+v]; ( and eax, 65532; mov eax, [eax+131072] ); bt eax, ecx; jae F");
      LINES.put("GO", "( and ecx, 65504; add ecx, 65536; jmp ecx )");
      LINES.put("CHAR", "NEXT FAIL; cmp eax, b; jne FAIL; inc ebx");
      LINES.put("SET", "NEXT FAIL; IN FAIL; inc ebx");
      LINES.put("ANY", "cmp ebx, [139264]; jae FAIL; inc ebx");
      LINES.put("SPAN", "1:; NEXT 2; IN 2; inc ebx; jmp 1");
      LINES.put("TESTCHAR", "NEXT L; cmp eax, b; jne L");
      LINES.put("TESTSET", "NEXT L; IN L");
      LINES.put("TESTANY", "cmp ebx, [139264]; jae L");
      LINES.put("JUMP", "jmp L");
      LINES.put("CHOICE", "mov eax, esi; mov ecx, w; ( and eax, 65520; mov [eax+131072], ecx; mov [eax+131076], ebx; mov [eax+131080], edi; mov [eax+131084], ebp ); add esi, 16; dec ebp; js OVER");
      LINES.put("CALL", "mov eax, esi; mov ecx, w; ( and eax, 65520; mov [eax+131072], ecx; mov [eax+131076], -1; mov [eax+131084], ebp ); add esi, 16; dec ebp; js OVER; jmp L");
      LINES.put("RET", "sub esi, 16; inc ebp; mov eax, esi; ( and eax, 65520; mov ecx, [eax+131072] ); GO");
      LINES.put("COMMIT", "sub esi, 16; inc ebp; jmp L");
      LINES.put("PARTIAL", "mov eax, esi; sub eax, 16; lea ecx, [ebp+1]; ( and eax, 65520; mov [eax+131076], ebx; mov [eax+131080], edi; mov [eax+131084], ecx ); jmp L");
      LINES.put("BACKCOMMIT", "sub esi, 16; mov eax, esi; ( and eax, 65520; mov ebx, [eax+131076]; mov edi, [eax+131080]; mov ebp, [eax+131084] ); jmp L");
      LINES.put("FAILTWICE", "sub esi, 16; jmp FAIL");
      LINES.put("FAIL", "jmp FAIL");
      LINES.put("OPEN", "mov eax, edi; mov ecx, e; ( and eax, 65528; mov [eax+131072], ecx; mov [eax+131076], ebx ); add edi, 8; dec ebp; js OVER");
      LINES.put("CLOSE", LINES.get("OPEN"));
      LINES.put("END", "mov eax, ebx; hlt");
      LINES.put("fail", "cmp esi, 12288; je NO; sub esi, 16; mov eax, esi; ( and eax, 65520; mov ecx, [eax+131072]; mov ebx, [eax+131076]; mov edx, [eax+131080]; mov ebp, [eax+131084] ); cmp ebx, -1; je FAIL; mov edi, edx; GO");
      LINES.put("no", "mov eax, -1; hlt");
      LINES.put("over", "mov eax, -2; hlt");
    }

    static final List<String> REGISTERS =
        Arrays.asList("eax", "ecx", "edx", "ebx", "esp", "ebp", "esi", "edi");

    /** One thing to be laid: an instruction, the edges of a group, a label, or a new bundle. */
    static final class Item {
      String line;
      String sort;
      boolean near;
      int size;
    }

    final List<Item> items = new ArrayList<>();
    final Map<String, Integer> places = new HashMap<>();
    byte[] bytes = new byte[0];

    Image(List<Step> program) {
      boolean[] aligned = new boolean[program.size() + 1];
      for (int i = 0; i < program.size(); i++) {
        if (program.get(i).op.equals("CHOICE")) {
          aligned[program.get(i).label[0]] = true;
        }
        aligned[i + 1] |= program.get(i).op.equals("CALL");
      }
      for (int i = 0; i < program.size(); i++) {
        Step step = program.get(i);
        if (aligned[i]) {
          item("bundle", "");
        }
        item("label", "L" + i);
        Map<String, String> words = new HashMap<>();
        words.put("L", step.label == null ? "?" : "L" + step.label[0]);
        words.put("2", "L" + (i + 1));
        words.put("1", "L" + i);
        words.put("b", "" + step.arg);
        words.put("v", "" + (4096 + 32 * step.arg));
        words.put("w", "@L" + (step.op.equals("CALL") ? i + 1 : step.label == null ? 0 : step.label[0]));
        words.put("e", "" + (2 * step.arg + (step.op.equals("CLOSE") ? 1 : 0)));
        expand(LINES.get(step.op), words);
      }
      for (String last : new String[] {"fail", "no", "over"}) {
        item("label", last.toUpperCase());
        expand(LINES.get(last), new HashMap<>());
      }
      for (boolean more = true; more;) {
        lay();
        more = widen();
      }
      lay();
    }

    Item item(String sort, String line) {
      Item item = new Item();
      item.sort = sort;
      item.line = line;
      items.add(item);
      return item;
    }

    void expand(String text, Map<String, String> words) {
      for (String part : text.split(";")) {
        String line = part.trim();
        if (line.startsWith("(")) {
          item("open", "");
          line = line.substring(1).trim();
        }
        boolean closes = line.endsWith(")");
        line = closes ? line.substring(0, line.length() - 1).trim() : line;
        String[] split = line.split(" ", 2);
        if (split[0].equals("NEXT") || split[0].equals("IN")) {
          Map<String, String> inner = new HashMap<>(words);
          inner.put("F", words.getOrDefault(split[1], split[1]));
          expand(LINES.get(split[0]), inner);
        } else if (split[0].equals("GO")) {
          expand(LINES.get("GO"), words);
        } else if (!line.equals("1:")) {
          String rest = split.length > 1 ? split[1] : "";
          String[] operands = rest.isEmpty() ? new String[0] : rest.split(", ");
          for (int k = 0; k < operands.length; k++) {
            operands[k] = words.getOrDefault(operands[k], operands[k]);
            operands[k] = operands[k].replace("+v]", "+" + words.get("v") + "]");
          }
          item("code", split[0] + " " + String.join(", ", operands));
        }
        if (closes) {
          item("close", "");
        }
      }
    }

    void lay() {
      List<Byte> laid = new ArrayList<>();
      List<Integer> ends = new ArrayList<>();
      Map<String, Integer> found = new HashMap<>();
      List<String> open = new ArrayList<>();
      boolean inGroup = false;
      for (int k = 0; k < items.size(); k++) {
        Item item = items.get(k);
        switch (item.sort) {
          case "label": open.add(item.line); break;
          case "bundle":
            while (laid.size() % 32 != 0) {
              laid.add((byte) 0x90);
            }
            break;
          case "open":
            int total = 0;
            for (int j = k + 1; !items.get(j).sort.equals("close"); j++) {
              total += encode(items.get(j), 0).length;
            }
            pad(laid, total);
            inGroup = true;
            break;
          case "close": inGroup = false; break;
          default:
            int size = encode(item, 0).length;
            if (!inGroup) {
              pad(laid, size);
            }
            for (String label : open) {
              found.put(label, laid.size());
            }
            open.clear();
            for (byte b : encode(item, laid.size() + size)) {
              laid.add(b);
            }
            item.size = laid.size();
            break;
        }
      }
      places.putAll(found);
      bytes = new byte[laid.size()];
      for (int i = 0; i < bytes.length; i++) {
        bytes[i] = laid.get(i);
      }
    }

    static void pad(List<Byte> laid, int size) {
      if (laid.size() / 32 != (laid.size() + size - 1) / 32) {
        while (laid.size() % 32 != 0) {
          laid.add((byte) 0x90);
        }
      }
    }

    boolean widen() {
      boolean more = false;
      for (Item item : items) {
        if (item.sort.equals("code") && item.line.startsWith("j") && !item.line.equals("jmp ecx")) {
          int far = places.get(item.line.split(" ")[1]) - item.size;
          if (!item.near && (byte) far != far) {
            item.near = true;
            more = true;
          }
        }
      }
      return more;
    }

    int placeOf(String label) {
      return places.getOrDefault(label, 0);
    }

    static byte[] join(int[] head, int... numbers) {
      byte[] all = new byte[head.length + 4 * numbers.length];
      for (int i = 0; i < head.length; i++) {
        all[i] = (byte) head[i];
      }
      for (int i = 0; i < numbers.length; i++) {
        for (int k = 0; k < 4; k++) {
          all[head.length + 4 * i + k] = (byte) (numbers[i] >>> 8 * k);
        }
      }
      return all;
    }

    static int[] row(int... all) {
      return all;
    }

    byte[] encode(Item item, int end) {
      String[] split = item.line.trim().split(" ", 2);
      String[] operands = split.length > 1 ? split[1].split(", ") : new String[0];
      if (split[0].startsWith("j") && !item.line.equals("jmp ecx")) {
        int c = Arrays.asList("jae", "je", "jne", "js", "jmp").indexOf(split[0]);
        int code = new int[] {3, 4, 5, 8, -1}[c];
        int far = placeOf(operands[0]) - end;
        if (!item.near) {
          return join(row(code < 0 ? 0xEB : 0x70 + code, far));
        }
        return code < 0 ? join(row(0xE9), far) : join(row(0x0F, 0x80 + code), far);
      }
      int one = operands.length > 0 ? REGISTERS.indexOf(operands[0]) : -1;
      int two = operands.length > 1 ? REGISTERS.indexOf(operands[1]) : -1;
      switch (split[0]) {
        case "hlt": return join(row(0xF4));
        case "jmp": return join(row(0xFF, 0xE0 + one));
        case "inc": return join(row(0x40 + one));
        case "dec": return join(row(0x48 + one));
        case "shr": return join(row(0xC1, 0xE8 + one, Integer.parseInt(operands[1])));
        case "bt": return join(row(0x0F, 0xA3, 0xC0 + 8 * two + one));
        case "movzx": return join(row(0x0F, 0xB6, 0x80 + 8 * one), offset(operands[1]));
        case "lea":
          if (operands[1].contains("*4")) {
            return join(row(0x8D, 8 * one + 4, 0x85), offset(operands[1]));
          }
          return join(row(0x8D, 0x80 + 8 * one + 5), offset(operands[1]));
        case "mov": return encodeMove(operands, one, two);
        default: break;
      }
      int n = Arrays.asList("add", "or", "adc", "sbb", "and", "sub", "xor", "cmp").indexOf(split[0]);
      if (operands[1].startsWith("[")) {
        return join(row(0x3B, 8 * one + 5), 139264);
      }
      return join(row(0x81, 0xC0 + 8 * n + one), Integer.parseInt(operands[1]));
    }

    byte[] encodeMove(String[] operands, int one, int two) {
      if (operands[0].startsWith("[")) {
        if (two < 0) {
          return join(row(0xC7, 0x80), offset(operands[0]), Integer.parseInt(operands[1]));
        }
        return join(row(0x89, 0x80 + 8 * two), offset(operands[0]));
      }
      if (operands[1].startsWith("[")) {
        return join(row(0x8B, 0x80 + 8 * one), offset(operands[1]));
      }
      if (two >= 0) {
        return join(row(0x89, 0xC0 + 8 * two + one));
      }
      boolean label = operands[1].startsWith("@");
      return join(row(0xB8 + one),
          label ? placeOf(operands[1].substring(1)) : Integer.parseInt(operands[1]));
    }

    static int offset(String memory) {
      return Integer.parseInt(memory.substring(memory.indexOf('+') + 1, memory.length() - 1));
    }
  }
}
