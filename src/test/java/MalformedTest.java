import java.util.ArrayList;
import java.util.List;
import java.util.Random;

/**
 * Texts that are well formed or nearly so, against a second reading of Part II that takes one byte
 * after the other and says at once when no grammar goes on.
 */
public final class MalformedTest {
  private static final Dues DUES = new Dues("MalformedTest");

  public static void main(String[] args) {
    int rounds = args.length > 0 ? Integer.parseInt(args[0]) : 60000;
    long seed = args.length > 1 ? Long.parseLong(args[1]) : 1;
    MatchHouse house = new MatchHouse();
    edges(house);
    int faults = 0;
    for (int k = 0; k < rounds && DUES.wrong() < 5; k++) {
      Random random = new Random(seed * 1000003 + k);
      String text = k % 4 == 3 ? signs(random) : spoil(written(random), random);
      faults += compare(house, text);
    }
    System.out.println(faults + " of " + rounds + " texts were malformed");
    DUES.finish();
  }

  private static String written(Random random) {
    OracleTest.Writer writer = new OracleTest.Writer(random);
    writer.write();
    return writer.text.toString();
  }

  private static String spoil(String text, Random random) {
    StringBuilder spoilt = new StringBuilder(text);
    int many = random.nextInt(3);
    for (int k = 0; k < many && spoilt.length() > 0; k++) {
      int at = random.nextInt(spoilt.length());
      String all = "&!(){}[]'.=;/?*+^-\\#x0f9 aiz_\n\u0000\u00ff\u007f";
      char sign = all.charAt(random.nextInt(all.length()));
      switch (random.nextInt(4)) {
        case 0: spoilt.deleteCharAt(at); break;
        case 1: spoilt.insert(at, sign); break;
        case 2: spoilt.setCharAt(at, sign); break;
        default:
          if (random.nextInt(4) == 0) {
            spoilt.setLength(at);
          } else {
            spoilt.insert(at, spoilt.substring(at, Math.min(spoilt.length(), at + random.nextInt(9))));
          }
          break;
      }
    }
    return spoilt.toString();
  }

  /** Rows of signs of the language alone, which come to odd places soon. */
  private static String signs(Random random) {
    StringBuilder text = new StringBuilder("a=");
    String[] words = {"&", "!", "(", ")", "{", "}", "'", "[", "]", ".", "a", "b", "?", "*", "+",
        "^2", "^", "/", ";", "=", "a=", ";b=", "-", "\\x4", "1", "\\", "'a'", "[a-z]", "i", " ",
        "#", "\n", "[^", "_", "0", "''i", "\\x41-\\x4", "[\\x61-\\x60]", "[b-\\"};
    int many = 1 + random.nextInt(12);
    for (int k = 0; k < many; k++) {
      text.append(words[random.nextInt(words.length)]);
    }
    return text.append(random.nextBoolean() ? ";" : "").toString();
  }

  private static int compare(MatchHouse house, String text) {
    if (text.length() > 4000) {
      return 0;
    }
    int due = new Taker().faultOf(text);
    int answer = Dues.grammar(house, text);
    if (due >= 0) {
      DUES.due("grammar of " + text, answer, -1);
      DUES.due("fault(0) of " + text, house.fault(0), 1);
      DUES.due("fault(1) of " + text, house.fault(1), due);
      return 1;
    }
    DUES.due("fault(0) is 1 of " + text, house.fault(0) == 1, false);
    return 0;
  }

  private static String many(String word, int times) {
    return word.repeat(times);
  }

  private static void malformed(MatchHouse house, String text, int place) {
    DUES.due("faultOf " + text, new Taker().faultOf(text), place);
    compare(house, text);
    DUES.due("fault(1) of " + text, house.fault(1), place);
  }

  private static void wellFormed(MatchHouse house, String text) {
    malformed(house, text, -1);
    DUES.due("fault(0) of " + text, house.fault(0), 0);
  }

  private static void edges(MatchHouse house) {
    malformed(house, "", 0);
    malformed(house, " \n# a=;", 7);
    malformed(house, "a", 1);
    malformed(house, "a=", 2);
    malformed(house, "a='", 3);
    malformed(house, "a==;", 2);
    malformed(house, "a=;b", 4);
    malformed(house, "a=;;", 3);
    malformed(house, "1=;", 0);
    malformed(house, many("n", 21) + "=;", 20);
    malformed(house, "a=" + many("n", 21) + ";", 22);
    wellFormed(house, "zZaA_09=_Z;_Z=Z_;Z_=A9;A9=a;a=;");
    malformed(house, "a@=;", 1);
    malformed(house, "a`=;", 1);
    malformed(house, "a:=;", 1);
    malformed(house, "a=a/;b/=;", 6);
    malformed(house, "a=b\u00c0;", 3);
    wellFormed(house, many("n", 20) + "=;");
    StringBuilder rules = new StringBuilder();
    for (int k = 0; k < 60; k++) {
      rules.append("r" + k + "=;");
    }
    wellFormed(house, rules + " # no more");
    malformed(house, rules + " ;", rules.length() + 1);
    malformed(house, rules + "z=;", rules.length());
    wellFormed(house, "a=" + many("(", 40) + "'a'" + many(")", 40) + ";");
    malformed(house, "a=" + many("(", 41) + "'a'" + many(")", 41) + ";", 42);
    wellFormed(house, "a=" + many("!", 40) + "'a' (b);b=;");
    malformed(house, "a=" + many("&", 41) + "'a';", 42);
    malformed(house, "a=" + many("({", 20) + "!", 42);
    malformed(house, "a=" + many("&(", 20) + "'a'{", 45);
    wellFormed(house, "a=" + many("(", 39) + "!'a'{'b'}" + many(")", 39) + ";");
    malformed(house, "a=" + many("(", 39) + "!'a'!('b')" + many(")", 39) + ";", 46);
    wellFormed(house, "a='x'?^2?;");
    malformed(house, "a='x'?^2??;", 9);
    malformed(house, "a='x'?^2?^;", 9);
    malformed(house, "a='x'^0;", 6);
    malformed(house, "a='x'^ 1;", 6);
    malformed(house, "a='x'^", 6);
    wellFormed(house, "a='x' ^9 # \n ?;");
    malformed(house, "a='x'^12;", 7);
    malformed(house, "a=&;", 3);
    malformed(house, "a=! /;", 4);
    malformed(house, "a=*;", 2);
    malformed(house, "a=);", 2);
    malformed(house, "a=(};", 3);
    malformed(house, "a={);", 3);
    wellFormed(house, "a=[]/[^]/[^^]/['-z]/[\\]\\-\\^\\\\\\n];");
    malformed(house, "a=[-];", 3);
    malformed(house, "a=[a-];", 5);
    malformed(house, "a=[a-b-c];", 6);
    malformed(house, "a=[b-a];", 5);
    malformed(house, "a=[b-\\x61];", 5);
    wellFormed(house, "a=[b-b][a-\\xff][\\x00-\\x00];");
    malformed(house, "a=[\u0080];", 3);
    malformed(house, "a=[\\xA0];", 5);
    malformed(house, "a=[\\x0g];", 6);
    malformed(house, "a=[\\x0", 6);
    malformed(house, "a=[\\", 4);
    malformed(house, "a=[a", 4);
    malformed(house, "a='\\q';", 4);
    malformed(house, "a='\n';", 3);
    malformed(house, "a='\u007f';", 3);
    wellFormed(house, "a='~ \\x7f\\xff\"]-^[#';");
    wellFormed(house, "a='b'if;f='b'i i;i='' i_;i_=;");
    malformed(house, "a='b'0;", 5);
    malformed(house, "a=b c=d;", 5);
    malformed(house, "a=\u000b;", 2);
    malformed(house, "a b=;", 2);
  }

  /** Takes a text byte by byte; one step is either fine or the fault. */
  private static final class Taker {
    enum State {
      RULE, RULE_NAME, EQUALS, PART, PREFIXED, BEHIND, NAME, POWER, LITERAL, CLOSED, CLASS, ITEMS,
      RANGED, ESCAPE, HEX_ONE, HEX_TWO
    }

    State state = State.RULE;
    boolean comment = false;
    int rules = 0;
    int size = 0;
    int suffixes = 0;
    // Open brackets, each with how many & and ! stand right ahead of it.
    final List<int[]> open = new ArrayList<>();
    int signs = 0;
    boolean inClass = false;
    int low = -1;
    boolean ranged = false;
    int byteAt = 0;
    int value = 0;

    int faultOf(String text) {
      for (int at = 0; at < text.length(); at++) {
        int fault = take(text.charAt(at), at);
        if (fault >= 0) {
          return fault;
        }
      }
      boolean ended = state == State.RULE && rules > 0;
      return ended ? -1 : text.length();
    }

    int depth() {
      int all = signs;
      for (int[] one : open) {
        all += 1 + one[1];
      }
      return all;
    }

    static boolean letter(char c) {
      return c >= 'a' && c <= 'z' || c >= 'A' && c <= 'Z' || c == '_';
    }

    static boolean digit(char c) {
      return c >= '0' && c <= '9';
    }

    int take(char c, int at) {
      if (comment) {
        comment = c != '\n';
        return -1;
      }
      switch (state) {
        case RULE_NAME:
        case NAME:
          if (letter(c) || digit(c)) {
            size++;
            return size > 20 ? at : -1;
          }
          state = state == State.NAME ? State.BEHIND : State.EQUALS;
          return take(c, at);
        case POWER:
          state = State.BEHIND;
          return c >= '1' && c <= '9' ? -1 : at;
        case CLOSED:
          state = State.BEHIND;
          return c == 'i' ? -1 : take(c, at);
        case LITERAL:
        case CLASS:
        case ITEMS:
        case RANGED:
        case ESCAPE:
        case HEX_ONE:
        case HEX_TWO:
          return takeInside(c, at);
        default:
          break;
      }
      if (c == '#' || c == ' ' || c == '\t' || c == '\n' || c == '\r') {
        comment = c == '#';
        return -1;
      }
      return takeToken(c, at);
    }

    int takeToken(char c, int at) {
      switch (state) {
        case RULE:
          if (!letter(c) || rules == 60) {
            return at;
          }
          rules++;
          size = 1;
          state = State.RULE_NAME;
          return -1;
        case EQUALS:
          state = State.PART;
          signs = 0;
          return c == '=' ? -1 : at;
        case BEHIND:
          if ("?*+^".indexOf(c) >= 0) {
            suffixes++;
            state = c == '^' ? State.POWER : State.BEHIND;
            return suffixes > 3 ? at : -1;
          }
          state = State.PART;
          signs = 0;
          return takeToken(c, at);
        default:
          return takePart(c, at);
      }
    }

    int takePart(char c, int at) {
      suffixes = 0;
      if (letter(c)) {
        state = State.NAME;
        size = 1;
        return -1;
      }
      switch (c) {
        case '&':
        case '!':
          signs++;
          state = State.PREFIXED;
          return depth() > 40 ? at : -1;
        case '(':
        case '{':
          open.add(new int[] {c == '(' ? ')' : '}', signs});
          signs = 0;
          state = State.PART;
          return depth() > 40 ? at : -1;
        case '.':
          state = State.BEHIND;
          return -1;
        case '\'':
          state = State.LITERAL;
          inClass = false;
          return -1;
        case '[':
          state = State.CLASS;
          inClass = true;
          low = -1;
          ranged = false;
          return -1;
        default:
          return state == State.PREFIXED ? at : takeEnd(c, at);
      }
    }

    int takeEnd(char c, int at) {
      if (c == '/') {
        return -1;
      }
      if (open.isEmpty()) {
        state = State.RULE;
        return c == ';' ? -1 : at;
      }
      int[] last = open.remove(open.size() - 1);
      signs = 0;
      state = State.BEHIND;
      return c == last[0] ? -1 : at;
    }

    int takeInside(char c, int at) {
      switch (state) {
        case ESCAPE:
          int which = "ntr']-\\^".indexOf(c);
          if (which >= 0) {
            return takeByte("\n\t\r']-\\^".charAt(which));
          }
          state = State.HEX_ONE;
          value = 0;
          return c == 'x' ? -1 : at;
        case HEX_ONE:
        case HEX_TWO:
          int digit = "0123456789abcdef".indexOf(c);
          if (digit < 0) {
            return at;
          }
          value = 16 * value + digit;
          if (state == State.HEX_TWO) {
            return takeByte(value);
          }
          state = State.HEX_TWO;
          return -1;
        default:
          break;
      }
      if (state == State.CLASS && c == '^') {
        state = State.ITEMS;
        return -1;
      }
      if (c == (inClass ? ']' : '\'')) {
        boolean dash = state == State.RANGED;
        state = inClass ? State.BEHIND : State.CLOSED;
        return dash ? at : -1;
      }
      if (inClass && c == '-') {
        boolean fine = state == State.ITEMS && low >= 0;
        state = State.RANGED;
        ranged = true;
        return fine ? -1 : at;
      }
      if (c == '\\') {
        byteAt = at;
        state = State.ESCAPE;
        return -1;
      }
      if (c < 32 || c > 126) {
        return at;
      }
      byteAt = at;
      return takeByte(c);
    }

    int takeByte(int b) {
      state = inClass ? State.ITEMS : State.LITERAL;
      if (ranged && inClass) {
        boolean below = b < low;
        ranged = false;
        low = -1;
        return below ? byteAt : -1;
      }
      low = b;
      return -1;
    }
  }
}
