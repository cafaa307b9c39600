/** The edges that Part II and promises 4, 5 and 7 name: of texts, of their faults, of facts. */
public final class EdgesOfGrammarTest {
  private static final Dues DUES = new Dues("EdgesOfGrammarTest");
  private static final int MALFORMED = 1;
  private static final int UNBOUND = 2;
  private static final int LEFT = 3;
  private static final int ENDLESS = 4;
  private static final int TOO_LARGE = 5;

  public static void main(String[] args) {
    rulesOneToSixty();
    nameOfTwenty();
    nameByEachByte();
    blanksByEachByte();
    commentsUpToTenOrTheEnd();
    suffixesThree();
    digitOneToNine();
    withinOneAnotherForty();
    prefixIsForWhatStandsBehind();
    noneInLiteralClassSequence();
    literalByEachByte();
    classByEachByte();
    escapeByEachByte();
    hexByEachByte();
    secondNotBelowFirst();
    otherCaseByEachByte();
    moreMustCome();
    fullText();
    kindsInOrder();
    firstNameAlongTheText();
    firstLeftRule();
    leftThroughSixty();
    firstLoopAlongTheText();
    faultBeforeAndBehind();
    tapeIsEmptyInAnyCase();
    grammarThatWasStays();
    grammarBehindAnother();
    prefixesInTheirOrder();
    bytesOfLaterParts();
    factsOfTheLeast();
    firstOfEachKind();
    firstThroughSixty();
    ruleOfNone();
    DUES.finish();
  }

  private static void due(String what, long got, long want) {
    DUES.due(what, got, want);
  }

  private static String told(String text) {
    return text.length() < 60 ? text : text.substring(0, 40) + ".. (" + text.length() + ")";
  }

  private static MatchHouse good(String text, int rules) {
    MatchHouse house = new MatchHouse();
    due("grammar " + told(text), Dues.grammar(house, text), rules);
    due("fault(0) of " + told(text), house.fault(0), 0);
    due("fault(1) of " + told(text), house.fault(1), -1);
    due("count(0) of " + told(text), house.count(0), rules);
    return house;
  }

  private static void fault(String text, int kind, int place) {
    MatchHouse house = new MatchHouse();
    due("grammar " + told(text), Dues.grammar(house, text), -1);
    due("fault(0) of " + told(text), house.fault(0), kind);
    due("fault(1) of " + told(text), house.fault(1), place);
    due("count(0) behind " + told(text), house.count(0), 0);
    due("count(6) behind " + told(text), house.count(6), 0);
  }

  private static void malformed(String text, int place) {
    fault(text, MALFORMED, place);
  }

  private static String many(String word, int times) {
    return word.repeat(times);
  }

  private static boolean isLetter(int b) {
    return b >= 65 && b <= 90 || b >= 97 && b <= 122 || b == 95;
  }

  private static boolean isDigit(int b) {
    return b >= 48 && b <= 57;
  }

  private static boolean isBlank(int b) {
    return b == 9 || b == 10 || b == 13 || b == 32;
  }

  private static String rules(int many) {
    StringBuilder text = new StringBuilder();
    for (int k = 0; k < many; k++) {
      text.append('r').append(k).append("=.;");
    }
    return text.toString();
  }

  /** "{ RULE }, 1 to 60", "a 61st RULE at its first byte". */
  private static void rulesOneToSixty() {
    malformed("", 0);
    malformed(" \t\r\n", 4);
    malformed("# a=;", 5);
    good("a=;", 1);
    good(rules(59), 59);
    MatchHouse house = good(rules(60), 60);
    due("the last rule's start", house.rule(59, 3), 2 + 2 * 59);
    due("the last rule's FIRST", house.rule(59, 11), -1);
    due("no rule 60", house.rule(60, 3), -1);
    int size = rules(60).length();
    malformed(rules(61), size);
    malformed(rules(60) + " #x\n z", size + 5);
    malformed(rules(60) + ";", size);
    malformed(rules(60) + "7", size);
    malformed(rules(62), size);
    good(rules(60) + " \t\r\n#z=;", 60);
    malformed(rules(59) + "z", rules(59).length() + 1);
    malformed(rules(59) + "z=", rules(59).length() + 2);
  }

  /** "20 at most", "a NAME too long at its 21st byte". */
  private static void nameOfTwenty() {
    String twenty = "abcdefghij_ABCDEF012";
    good(twenty + "=;", 1);
    good(twenty + "=.;b=" + twenty + ";", 2);
    good(many("n", 20) + " =;", 1);
    malformed(many("n", 21) + "=;", 20);
    malformed(many("n", 21), 20);
    malformed(many("n", 40) + "=;", 20);
    malformed(" " + many("_", 21) + "=;", 21);
    malformed("a=" + many("n", 21) + ";", 22);
    malformed("a='x'" + many("n", 20) + "9;", 25);
    malformed("a=" + twenty + " " + many("n", 21), 43);
    malformed(many("n", 20) + "@=;", 20);
    malformed(many("n", 20), 20);
    // All twenty bytes tell NAMES apart, and so does how many there are.
    good(many("n", 19) + "a=;" + many("n", 19) + "b=;" + many("n", 19) + "=;", 3);
    good("a" + many("n", 19) + "=;b" + many("n", 19) + "=;", 2);
    fault(twenty + "=;b=" + twenty.substring(0, 19) + "3;", UNBOUND, 24);
    fault("ab=;c=a;", UNBOUND, 6);
    fault("a=;c=ab;", UNBOUND, 5);
  }

  /** "A letter or _, then letters, digits, _, as many as stand there." */
  private static void nameByEachByte() {
    for (int b = 0; b < 256; b++) {
      String first = (char) b + "=;";
      if (isLetter(b)) {
        good(first, 1);
      } else if (b == '#') {
        malformed(first, 3);
      } else {
        malformed(first, isBlank(b) ? 1 : 0);
      }
      String second = "a" + (char) b + "=;";
      if (isLetter(b) || isDigit(b) || isBlank(b)) {
        good(second, 1);
      } else if (b == '#') {
        malformed(second, 4);
      } else {
        malformed(second, b == '=' ? 2 : 1);
      }
    }
  }

  /** "Between them BLANKS: bytes 9, 10, 13, 32" */
  private static void blanksByEachByte() {
    for (int b = 0; b < 256; b++) {
      String ahead = (char) b + "";
      if (isBlank(b)) {
        String all = ahead + "a" + ahead + "=" + ahead + "&" + ahead + "(" + ahead + "." + ahead
            + "?" + ahead + "/" + ahead + "'x'" + ahead + ")" + ahead + "^1" + ahead + ";" + ahead;
        good(all, 1);
        malformed("a=.^" + ahead + "1;", 4);
      } else if (b != '#') {
        String behind = "a=;" + ahead;
        malformed(behind, isLetter(b) ? 4 : 3);
      }
    }
    // None of them within a NAME, a LITERAL's i, a CLASS.
    fault("ab=.;c=a b;", UNBOUND, 7);
    fault("a='x' i;", UNBOUND, 6);
    malformed("a='\n';", 3);
    malformed("a=[\t];", 3);
    malformed("a=[x\r];", 4);
    MatchHouse house = good("a=[ ]' ';", 1);
    due("a 32 in a CLASS is its BYTE", house.rule(0, 5), 1);
    due("two instructions", house.count(1), 5);
  }

  /** "What stands from a # up to the next byte 10 or the end" */
  private static void commentsUpToTenOrTheEnd() {
    for (int b = 0; b < 256; b++) {
      good("a=;#" + (char) b + "\nb=;", 2);
      good("a=;#" + (char) b, 1);
      if (b == 10) {
        good("a=;#" + (char) b + "b=;", 2);
      } else {
        good("a=;#" + (char) b + "b=;", 1);
      }
    }
    good("a=;#", 1);
    good("#\na=;", 1);
    good("##\n#a\na#=\n=#;\n;#", 1);
    malformed("#", 1);
    malformed("#\n", 2);
    malformed("a=#;", 4);
    malformed("a=#;\n", 5);
    malformed("a=#\r;", 5);
    MatchHouse house = good("a='#'[#];", 1);
    due("a # in a LITERAL, a CLASS is its byte", house.count(1), 5);
  }

  /** "At most 3 of these", "a suffix .. too many at it" */
  private static void suffixesThree() {
    good("a='x'?;", 1);
    good("a='x'??;", 1);
    for (String three : new String[] {"???", "^1?*", "^3^3^1", "+^2?", "^2+?"}) {
      String text = "a='x'" + three;
      int size = text.length();
      if (three.endsWith("?*")) {
        fault(text + ";", ENDLESS, size - 1);
      } else {
        good(text + ";", 1);
        good(text + "'y'?;", 1);
        good("a=('x'" + three + ")" + three.replace('+', '?') + ";", 1);
      }
      for (String fourth : new String[] {"?", "*", "+", "^", "^1", "^x"}) {
        malformed(text + fourth + ";", size);
        malformed(text + " #\n" + fourth + ";", size + 3);
      }
      malformed(text, size);
    }
    malformed("a=" + many("?", 3) + ";", 2);
    malformed("a='x'????", 8);
    malformed("a='x'^1^1^1^1;", 11);
    malformed("a=('x'???)????;", 13);
    malformed("a={'x'???}????;", 13);
    malformed("a=!'x'????;", 9);
  }

  /** "DIGIT: 1 to 9, right behind the ^." */
  private static void digitOneToNine() {
    for (int b = 0; b < 256; b++) {
      String text = "a='x'^" + (char) b + ";";
      if (b >= '1' && b <= '9') {
        MatchHouse house = good(text, 1);
        due("instructions of " + text, house.count(1), 3 + b - '0');
        due("the last but RET of " + text, house.program(1 + b - '0', 1), 'x');
        house = good("a='x'^" + (char) b + "'y';", 1);
        due("the last x of " + text, house.program(1 + b - '0', 1), 'x');
        due("what stands behind " + text, house.program(2 + b - '0', 1), 'y');
        due("instructions with that", house.count(1), 4 + b - '0');
      } else {
        malformed(text, 6);
      }
    }
    malformed("a='x'^", 6);
    malformed("a='x'^10;", 7);
    malformed("a='x'^11;", 7);
    due("e^1 is e: PLAIN, so a SPAN", good("a='x'^1*;", 1).count(1), 4);
    due("e^2 is a SEQUENCE", good("a='x'^2*;", 1).count(1), 8);
    due("e^1^9^9 are 81", good("a='x'^1^9^9;", 1).count(1), 84);
  }

  private static String nested(String open, int times, String inner) {
    StringBuilder text = new StringBuilder("a=" + many(open, times) + inner);
    for (int k = 0; k < times; k++) {
      for (int i = open.length() - 1; i >= 0; i--) {
        char c = open.charAt(i);
        text.append(c == '(' ? ")" : c == '{' ? "}" : "");
      }
    }
    return text + ";";
  }

  /** "&, !, ( and { are at most 40 within one another", ".. too many at it" */
  private static void withinOneAnotherForty() {
    for (String open : new String[] {"&", "!", "(", "{"}) {
      good(nested(open, 39, "'x'"), 1);
      good(nested(open, 40, "'x'"), 1);
      malformed(nested(open, 41, "'x'"), 42);
      malformed(nested(open, 80, "'x'"), 42);
      malformed("a=" + many(open, 41), 42);
      malformed("a=" + many(open, 40), 42);
    }
    for (String open : new String[] {"&(", "({", "{!", "!!", "(("}) {
      good(nested(open, 20, "'x'"), 1);
      for (String more : new String[] {"&", "!", "(", "{"}) {
        malformed("a=" + many(open, 20) + more, 42);
        malformed("a=" + many(open, 20) + "'x' " + more, open.endsWith("!") ? 47 : 46);
        malformed("a=" + many(open, 19) + open.charAt(0) + more + "!", 42);
      }
    }
    good(nested("&(!{", 10, "'x'"), 1);
    malformed(nested("&(!{", 10, "{'x'}"), 42);
    malformed(nested("(", 40, "'x'/ &'y'"), 47);
    due("all of 40 {", good(nested("{", 40, ""), 1).count(4), 40);
    due("40 OPEN, 40 CLOSE", good(nested("{", 40, ""), 1).count(1), 83);
  }

  /** "(an & or ! is so for what stands behind it in its PREFIX)" */
  private static void prefixIsForWhatStandsBehind() {
    good("a=" + many("!'x' ", 200) + ";", 1);
    good("a=" + many("('x')", 200) + ";", 1);
    good("a=" + many("{'x'}", 200) + ";", 1);
    good("a=" + many("(", 39) + "!'x' !'x' ('y') {'z'} &'w'" + many(")", 39) + ";", 1);
    malformed("a=" + many("(", 39) + "!'x' !(", 47);
    good("a=" + many("(", 38) + "!('x') !('x')" + many(")", 38) + ";", 1);
    malformed("a=" + many("(", 38) + "!!(", 42);
    good("a=" + many("(", 38) + "!!'x'? !!'x'" + many(")", 38) + ";", 1);
    good("a=" + many("!", 40) + "'x' " + many("&", 40) + "'x'/" + many("(", 40) + many(")", 40)
        + ";", 1);
  }

  /** "BYTES, none too", "ITEMS, none too", "{ PREFIX } (none, too)" */
  private static void noneInLiteralClassSequence() {
    String[] nothing = {"''", "''i", "", "()", "(())", "''''", "''^9", "()()"};
    for (String text : nothing) {
      MatchHouse house = good("a=" + text + ";", 1);
      due("instructions of " + text, house.count(1), 3);
      due("NULLABLE of " + text, house.rule(0, 0), 1);
      due("SURE of " + text, house.rule(0, 1), 0);
      due("NOFAIL of " + text, house.rule(0, 2), 1);
      due("FIRST of " + text, house.rule(0, 7), 0);
      due("match of " + text, house.match(0, 1), 0);
    }
    MatchHouse house = good("a=/;", 1);
    due("a CHOICE of two of none", house.count(1), 5);
    due("its first", house.program(2, 0), 8);
    house = good("a=[];", 1);
    due("[] is a SET", house.program(2, 0), 1);
    due("[] is SURE", house.rule(0, 1), 1);
    due("[] has none", house.rule(0, 7), 0);
    Dues.subject(house, "x");
    due("match of []", house.match(0, 9), -2);
    house = good("a=[^];", 1);
    due("[^] is ANY", house.program(2, 0), 2);
    due("[^] has all", house.rule(0, 4), -1);
    malformed("a=[^;", 5);
    malformed("a=[", 3);
    malformed("a='", 3);
  }

  private static boolean hasFirst(MatchHouse house, int b) {
    return (house.rule(0, 4 + b / 32) >> b % 32 & 1) != 0;
  }

  private static void onlyFirst(String text, int b) {
    MatchHouse house = good(text, 1);
    for (int w = 0; w < 8; w++) {
      due("FIRST of " + text + ", word " + w, house.rule(0, 4 + w), w == b / 32 ? 1 << b % 32 : 0);
    }
  }

  /** "A BYTE: 32 to 126 but 39 and \ (in a LITERAL)" */
  private static void literalByEachByte() {
    for (int b = 0; b < 256; b++) {
      String text = "a='" + (char) b + "';";
      if (b == 39 || b == 92) {
        malformed(text, 6);
      } else if (b < 32 || b > 126) {
        malformed(text, 3);
      } else {
        onlyFirst(text, b);
        malformed("a='" + (char) b, 4);
      }
    }
  }

  /** "But ] \ and - (in a CLASS; a ^ right behind the [ is no BYTE)" */
  private static void classByEachByte() {
    for (int b = 0; b < 256; b++) {
      String text = "a=[" + (char) b + "];";
      String second = "a=[~" + (char) b + "];";
      if (b == ']' || b == '\\') {
        malformed(text, b == ']' ? 4 : 6);
        malformed(second, b == ']' ? 5 : 7);
      } else if (b < 32 || b > 126 || b == '-') {
        malformed(text, 3);
        malformed(second, b == '-' ? 5 : 4);
      } else {
        due("byte " + b + " of " + second, hasFirst(good(second, 1), b), true);
        if (b != '^') {
          onlyFirst(text, b);
        }
      }
    }
    onlyFirst("a=[\\^];", '^');
    due("[^^] has no ^", hasFirst(good("a=[^^];", 1), '^'), false);
    due("[^^] has a _", hasFirst(good("a=[^^];", 1), '_'), true);
    malformed("a=[^-];", 4);
    malformed("a=[^];];", 6);
  }

  private static void due(String what, boolean got, boolean want) {
    DUES.due(what, got, want);
  }

  /** "\n \t \r are 10, 9, 13; .. \ ahead of one of ' ] - \ ^ is that one." */
  private static void escapeByEachByte() {
    String signs = "ntr']-\\^";
    String values = "\n\t\r']-\\^";
    for (int b = 0; b < 256; b++) {
      int k = signs.indexOf((char) b);
      String[] texts = {"a='\\" + (char) b + "';", "a=[\\" + (char) b + "];"};
      for (String text : texts) {
        if (k >= 0) {
          onlyFirst(text, values.charAt(k));
        } else {
          malformed(text, b == 'x' ? 5 : 4);
        }
      }
    }
    malformed("a='\\", 4);
    malformed("a=[\\", 4);
    malformed("a=[a-\\", 6);
  }

  /** "\x and two of 0 .. 9 a .. f the byte of that number" */
  private static void hexByEachByte() {
    String digits = "0123456789abcdef";
    for (int b = 0; b < 256; b++) {
      onlyFirst(String.format("a='\\x%02x';", b), b);
      onlyFirst(String.format("a=[\\x%02x];", b), b);
      int value = digits.indexOf((char) b);
      if (value >= 0) {
        onlyFirst("a='\\x" + (char) b + "f';", 16 * value + 15);
        onlyFirst("a='\\xf" + (char) b + "';", 240 + value);
      } else {
        malformed("a='\\x" + (char) b + "0';", 5);
        malformed("a='\\x0" + (char) b + "';", 6);
        malformed("a=[\\x" + (char) b + "0];", 5);
        malformed("a=[\\x0" + (char) b + "];", 6);
      }
    }
    malformed("a='\\x", 5);
    malformed("a='\\xf", 6);
    malformed("a='\\xff", 7);
    due("a third one stands for itself", good("a='\\x123';", 1).count(1), 5);
  }

  /** "The second not below the first", "at its first byte (the \, if it has one)" */
  private static void secondNotBelowFirst() {
    onlyFirst("a=[b-b];", 'b');
    onlyFirst("a=[\\x00-\\x00];", 0);
    onlyFirst("a=[\\xff-\\xff];", 255);
    onlyFirst("a=[~-~];", 126);
    due("[a-b] has b", hasFirst(good("a=[a-b];", 1), 'b'), true);
    malformed("a=[b-a];", 5);
    malformed("a=[b-\\x61];", 5);
    malformed("a=[\\x01-\\x00];", 8);
    malformed("a=[\\xff-\\xfe];", 8);
    malformed("a=[\\xff-~];", 8);
    malformed("a=[]-a];", 4);
    malformed("a=[b-\\n];", 5);
    malformed("a=[z-\\^];", 5);
    malformed("a=[xyb-a]", 7);
    malformed("a=[b-a", 5);
    malformed("a=[a-", 5);
    malformed("a=[a-];", 5);
    malformed("a=[A-];", 5);
    malformed("a=[A-]];", 5);
    malformed("a=[ --];", 5);
    malformed("a=[a--];", 5);
    malformed("a=[a-b-c];", 6);
    for (int low = 0; low < 256; low += 5) {
      for (int high : new int[] {low - 1, low, low + 1}) {
        String text = String.format("a=[\\x%02x-\\x%02x];", low, high & 255);
        if (high < low && high >= 0) {
          malformed(text, 8);
        } else if (high == low + 1 && high < 256) {
          MatchHouse house = good(text, 1);
          due("low of " + text, hasFirst(house, low), true);
          due("high of " + text, hasFirst(house, high), true);
          due("ahead of " + text, low > 0 && hasFirst(house, low - 1), false);
          due("behind " + text, high < 255 && hasFirst(house, high + 1), false);
        }
      }
    }
    MatchHouse all = good("a=[\\x00-\\xff];", 1);
    due("all 256: ANY", all.program(2, 0), 2);
    MatchHouse none = good("a=[^\\x00-\\xff];", 1);
    due("none of 256: SET", none.program(2, 0), 1);
    due("none of 256: word 0", none.set(0, 0), 0);
    due("none of 256: word 7", none.set(0, 7), 0);
  }

  /** "With i a letter and the same one of the other case, both" */
  private static void otherCaseByEachByte() {
    for (int b = 0; b < 256; b++) {
      MatchHouse house = good(String.format("a='\\x%02x'i;", b), 1);
      boolean letter = isLetter(b) && b != '_';
      due("instruction of '" + b + "'i", house.program(2, 0), letter ? 1 : 0);
      due("byte " + b + " of it", hasFirst(house, b), true);
      due("the other case of " + b, hasFirst(house, b ^ 32), letter);
    }
  }

  /** "(the text's length, if more must come)": each text that a GRAMMAR begins with. */
  private static void moreMustCome() {
    String one = "ab = !x^2 '\\x41q'i? / {[^a-\\xffz]} . ;";
    String two = " x = ( & '' ) * ;";
    for (int size = 0; size < one.length(); size++) {
      malformed(one.substring(0, size), size);
    }
    fault(one, UNBOUND, 6);
    fault(one + " ", UNBOUND, 6);
    for (int size = 2; size < two.length(); size++) {
      malformed(one + two.substring(0, size), one.length() + size);
    }
    fault(one + two, ENDLESS, one.length() + two.indexOf('*'));
    fault(one + two + " # end", ENDLESS, one.length() + two.indexOf('*'));
    malformed("a=&", 3);
    malformed("a=(", 3);
    malformed("a=(b", 4);
    malformed("a={b", 4);
    malformed("a=b/", 4);
    malformed("a=b^", 4);
  }

  /** A text of 4000 bytes, well formed or with its fault at the very end. */
  private static void fullText() {
    String start = "a='x';";
    good(start + many(" ", 3994), 1);
    good(many("\n", 3994) + start, 1);
    good(start + "#" + many("z", 3993), 1);
    malformed(start + many(" ", 3993) + ";", 3999);
    malformed(start + many(" ", 3993) + "b", 4000);
    malformed("#" + many("z", 3999), 4000);
    malformed("a='" + many("x", 3997), 4000);
    fault("a='" + many("x", 3995) + "';", TOO_LARGE, 4000);
    fault("a=" + many("/", 3997) + ";", TOO_LARGE, 4000);
    fault("a=" + many("''", 1996) + "'x'+b;", UNBOUND, 3998);
    fault(many(" ", 3988) + "a='x'*a;    ", LEFT, 3988);
    fault(many(" ", 3994) + "a=()*;", ENDLESS, 3998);
  }

  /** "A kind of a lesser number comes ahead of others", though it stands behind them. */
  private static void kindsInOrder() {
    String large = "z=('x'^9^9^9)^9;";
    String endless = "y=''*;";
    String left = "x=x;";
    String unbound = "w=v;";
    String malformed = "u=";
    fault(large, TOO_LARGE, 16);
    fault(large + endless, ENDLESS, 20);
    fault(large + left, LEFT, 16);
    fault(large + unbound, UNBOUND, 18);
    malformed(large + malformed, 18);
    fault(endless + left, LEFT, 6);
    fault(endless + unbound, UNBOUND, 8);
    malformed(endless + malformed, 8);
    fault(left + unbound, UNBOUND, 6);
    malformed(left + malformed, 6);
    malformed(unbound + malformed, 6);
    fault("y=;" + large + "y=;", UNBOUND, 19);
    String all = large + endless + left + unbound;
    fault(all, UNBOUND, 28);
    malformed(all + malformed, 32);
    malformed(all + "u=;@", 33);
  }

  /** "The first NAME along the text that is a RULE's for the second time, or .. is no RULE's" */
  private static void firstNameAlongTheText() {
    fault("a=;a=;", UNBOUND, 3);
    fault("a=;a=;a=;", UNBOUND, 3);
    fault("a=;b=;b=;a=;", UNBOUND, 6);
    fault("a=b;a=;", UNBOUND, 2);
    fault("a=;a=b;", UNBOUND, 3);
    fault("a=a c b;", UNBOUND, 4);
    fault("a=!(b)*;", UNBOUND, 4);
    fault("a={[x]^3/&b?};", UNBOUND, 10);
    fault("a=A;", UNBOUND, 2);
    fault(" a = ;\n a=;", UNBOUND, 8);
    good("a=b;b=;", 2);
    good("a=aa;aa=_a;_a=;", 3);
  }

  /** "The first RULE that is LEFT, at its NAME's first byte." */
  private static void firstLeftRule() {
    fault("a=a;", LEFT, 0);
    fault("  a =a;", LEFT, 2);
    fault("a=.;b=b;", LEFT, 4);
    fault("a=b;b=b;", LEFT, 4);
    fault("a=b;b=a;", LEFT, 0);
    fault("a=.;b=.c;c=b/c;d=d;", LEFT, 9);
    good("a=.a;", 1);
    good("a=.?.a/;", 1);
    // "In each SEQUENCE of which all parts ahead are NULLABLE (within &, ! too)"
    for (String nullable : new String[] {"", "''", ".?", ".*", "&.", "!.", "(/.)", "{}", "n", "()^9",
        ".?+", "{n}", "n^2", "& n", "(.?)^3"}) {
      String loop = nullable.equals(".?+") ? "(.?)?" : nullable;
      for (String name : new String[] {"a", "&a", "!a", "{a}", "(a)", "a?", "a^9", ".../a", "(./a)",
          "!!&a", "&(n a)"}) {
        fault("n=;a=" + loop + " " + name + ";", LEFT, 3);
      }
    }
    for (String not : new String[] {".", "'x'", "[]", "p", "{.}", ".+", "(./.)", ".^2", "&. .",
        ".? .", "'' ."}) {
      for (String name : new String[] {"a", "&a", "!a", "{a}", "(a)", "a?", "a^9"}) {
        good("p=.;a=" + not + " " + name + ";", 2);
      }
    }
  }

  /** "It is LEFT if it begins with one, that with one, and so on": through all 60 RULES. */
  private static void leftThroughSixty() {
    StringBuilder up = new StringBuilder();
    StringBuilder down = new StringBuilder();
    for (int k = 0; k < 60; k++) {
      up.append(String.format("r%02d=r%02d;", k, (k + 1) % 60));
      down.append(String.format("r%02d=r%02d;", k, (k + 59) % 60));
    }
    fault(up.toString(), LEFT, 0);
    fault(down.toString(), LEFT, 0);
    String ends = up.substring(0, up.length() - 4) + ".;";
    MatchHouse house = good(ends + " ", 60);
    due("SURE through 60", house.rule(0, 1), 1);
    due("FIRST through 60", house.rule(0, 4), -1);
    String last = up.substring(0, up.length() - 4) + "r59;";
    fault(last, LEFT, 8 * 59);
    String begins = down.substring(0, 4) + ".;" + down.substring(8);
    house = good(begins, 60);
    due("SURE down 60", house.rule(59, 1), 1);
    due("FIRST down 60", house.rule(59, 11), -1);
    house = good(begins.replace("=.;", "=;"), 60);
    due("NULLABLE down 60", house.rule(59, 0), 1);
    due("NOFAIL down 60", house.rule(59, 2), 1);
    house = good(ends.replace("=.;", "=;"), 60);
    due("NULLABLE through 60", house.rule(0, 0), 1);
    due("NOFAIL through 60", house.rule(0, 2), 1);
  }

  /** "The first * or + along the text, that stands behind what is NULLABLE." */
  private static void firstLoopAlongTheText() {
    for (String nullable : new String[] {"''", "()", ".?", ".*", "(&.)", "(!.)", "(/.)", "{}", "n",
        "''^9", "(n n)", "{.?}"}) {
      int at = 2 + nullable.length();
      fault("a=" + nullable + "*;n=;", ENDLESS, at);
      fault("a=" + nullable + "+;n=;", ENDLESS, at);
      good("a=" + nullable + "?;n=;", 2);
      good("a=(" + nullable + " .)*;n=;", 2);
    }
    fault("a=.**;", ENDLESS, 4);
    fault("a=.?+;", ENDLESS, 4);
    fault("a=.*+;", ENDLESS, 4);
    fault("a=.+?*;", ENDLESS, 5);
    good("a=.+*;", 1);
    good("a=.++*;", 1);
    fault("a=(''*)*;", ENDLESS, 5);
    fault("a=(.*)+''*;", ENDLESS, 6);
    fault("a=.;b=''+;c=''*;", ENDLESS, 8);
    fault("a=!''*;", ENDLESS, 5);
    fault("a=b*;b=c*;c=.?;", ENDLESS, 3);
    good("a=!.*;", 1);
  }

  /** "Of the latest grammar() .. NONE for another what, or ahead of any." */
  private static void faultBeforeAndBehind() {
    MatchHouse house = new MatchHouse();
    for (int what : new int[] {-1, 0, 1, 2, Integer.MIN_VALUE, Integer.MAX_VALUE}) {
      due("ahead of any: fault(" + what + ")", house.fault(what), -1);
    }
    Dues.subject(house, "x");
    due("ahead of any, behind subject(): fault(0)", house.fault(0), -1);
    String[] texts = {"a=", "a=;", "a=b;", "a=a;", "a=''*;", "a=('x'^9^9^9)^9;", "a=."};
    int[] kinds = {1, 0, 2, 3, 4, 5, 1};
    int[] places = {2, -1, 2, 0, 4, 16, 3};
    for (int k = 0; k < texts.length; k++) {
      due("grammar " + texts[k], Dues.grammar(house, texts[k]), kinds[k] == 0 ? 1 : -1);
      due("fault(0) of " + texts[k], house.fault(0), kinds[k]);
      due("fault(1) of " + texts[k], house.fault(1), places[k]);
      for (int what : new int[] {-1, 2, 3, Integer.MIN_VALUE, Integer.MAX_VALUE}) {
        due("fault(" + what + ") of " + texts[k], house.fault(what), -1);
      }
      house.match(0, 9);
      Dues.subject(house, "xy");
      due("fault(0) stays", house.fault(0), kinds[k]);
    }
    due("an empty tape", house.grammar(), -1);
    due("fault(0) of it", house.fault(0), 1);
    due("fault(1) of it", house.fault(1), 0);
  }

  /** "The tape (empty then, in any case)" */
  private static void tapeIsEmptyInAnyCase() {
    String[] texts = {"a=;", "a=", "a=b;", "a=a;", "a=''*;", "a=('x'^9^9^9)^9;", ""};
    for (String text : texts) {
      MatchHouse house = new MatchHouse();
      Dues.grammar(house, text);
      due("count(6) behind " + text, house.count(6), 0);
      due("end(1) behind " + text, house.end(1), -1);
      due("feed behind " + text, house.feed(1, 2, 3, 4, 5), 20);
      house.end(0);
      due("subject behind " + text, house.subject(), 0);
    }
  }

  /** "NONE when there is a FAULT: the GRAMMAR that was stays." */
  private static void grammarThatWasStays() {
    String[] texts = {"", "a=", "b={'y'}{.};b=;", "b={[xyz]}c;", "b={'q'}b;c=c;", "b=({.}?)*;",
        "b={[ab]}{[cd]}('x'^9^9^9)^9;", "b=" + many(".", 1998) + ";"};
    for (String text : texts) {
      Shown.same(DUES, "a grammar with a fault, " + told(text), EdgesOfGrammarTest::live, house -> {
        live(house);
        Dues.grammar(house, text);
      }, false);
      Shown.same(DUES, "no grammar, and a fault, " + told(text), house -> { }, house ->
          Dues.grammar(house, text), false);
    }
    StringBuilder sets = new StringBuilder("b=");
    for (int k = 0; k < 129; k++) {
      sets.append(String.format("[\\x%02x\\xff]", k));
    }
    Shown.same(DUES, "129 SETS", EdgesOfGrammarTest::live, house -> {
      live(house);
      Dues.grammar(house, sets + ";");
    }, false);
    Shown.same(DUES, "61446 bytes", EdgesOfGrammarTest::live, house -> {
      live(house);
      Dues.grammar(house, "a=" + many("b ", 636) + "'xx';b='x';");
    }, false);
  }

  private static void live(MatchHouse house) {
    Dues.grammar(house, "a={'x'}{[yz]}b?;b=[ab]+;");
    Dues.subject(house, "xyabq");
    house.match(0, 50);
  }

  /** A GRAMMAR has nothing of the one ahead of it, nor has its FAULT. */
  private static void grammarBehindAnother() {
    MatchHouse house = good("a=;b=;", 2);
    due("a NAME where a RULE's stood", Dues.grammar(house, "a= b;"), -1);
    due("its kind", house.fault(0), UNBOUND);
    due("its place", house.fault(1), 3);
    due("60 RULES", Dues.grammar(house, rules(60)), 60);
    due("one", Dues.grammar(house, "z=r1;r1='x';"), 2);
    due("a RULE that was", house.rule(2, 3), -1);
    due("RULES", house.count(0), 2);
    due("a NAME that was", Dues.grammar(house, "z=r2;"), -1);
    due("its kind", house.fault(0), UNBOUND);
    due("all bytes, often", Dues.grammar(house, "a={.}" + many("{.?}.*[^]", 60) + ";"), 1);
    due("{ of it", house.count(4), 61);
    String few = "a=" + many("'x'[]", 40) + ";b=" + many("'y'", 9) + ";";
    due("few bytes", Dues.grammar(house, few), 2);
    due("{ of few", house.count(4), 0);
    due("SETS of few", house.count(2), 1);
    for (int w = 0; w < 8; w++) {
      due("FIRST of few, word " + w, house.rule(0, 4 + w), w == 3 ? 1 << 24 : 0);
      due("SET of few, word " + w, house.set(0, w), 0);
    }
    for (int i = 0; i < 80; i++) {
      due("instruction " + i + " of few", house.program(2 + i, 0), i % 2);
      due("its number", house.program(2 + i, 1), i % 2 == 0 ? 'x' : 0);
    }
    due("NULLABLE of few", house.rule(1, 0), 0);
    due("nothing", Dues.grammar(house, "a=" + many("''", 90) + ";"), 1);
    due("NULLABLE of nothing", house.rule(0, 0), 1);
    due("FIRST of nothing", house.rule(0, 7), 0);
    due("something", Dues.grammar(house, few), 2);
    due("NULLABLE of something", house.rule(0, 0), 0);
    due("LEFT", Dues.grammar(house, "a=b;b=.?a;"), -1);
    due("LEFT no more", Dues.grammar(house, "a=b;b=.a ;"), 2);
  }

  /** "{ '&' | '!' } SUFFIX": each is for what stands behind it, up to all 40. */
  private static void prefixesInTheirOrder() {
    String[] texts = {"&!'x'", "!&'x'", "!!'x'", "&&'x'"};
    // TEST; what stands behind it; then BACKCOMMIT and FAIL, or FAILTWICE.
    int[][] kinds = {{8, 4, 13, 11, 13, 15}, {8, 4, 7, 13, 12, 15}, {8, 4, 13, 12, 15},
        {8, 4, 7, 13, 11, 13, 15}};
    for (int k = 0; k < texts.length; k++) {
      MatchHouse house = good("a=" + texts[k] + ";", 1);
      due("count(1) of " + texts[k], house.count(1), 2 + kinds[k].length);
      for (int i = 0; i < kinds[k].length; i++) {
        due("instruction " + i + " of " + texts[k], house.program(2 + i, 0), kinds[k][i]);
      }
    }
    for (int nots = 0; nots < 3; nots++) {
      String forty = many("&", 20) + many("!", nots) + many("&", 20 - nots);
      MatchHouse house = good("a=" + forty + "'x' 'x';", 1);
      Dues.subject(house, "x");
      due("40 of them, ! " + nots + " times", house.match(0, 99), nots % 2 == 0 ? 1 : -2);
      house = good("a=" + many("!", nots) + many("&", 40 - nots) + "'x';", 1);
      int last = house.program(house.count(1) - 2, 0);
      due("the last instruction of the outermost one", last, nots == 0 ? 13 : 12);
    }
  }

  /** What a LITERAL's i, a CLASS's ^ and neighbours in a CHOICE do, they do wherever they stand. */
  private static void bytesOfLaterParts() {
    MatchHouse house = good("a=.'q' 'aZ'i [^\\x01-\\xff] ('x'/'y'/'\\xff') [\\x1f\\x20];", 1);
    due("SETS", house.count(2), 4);
    int[][] sets = {{0, 0, 2, 2, 0, 0, 0, 0}, {0, 0, 1 << 26, 1 << 26, 0, 0, 0, 0},
        {0, 0, 0, 3 << 24, 0, 0, 0, 1 << 31}, {1 << 31, 1, 0, 0, 0, 0, 0, 0}};
    for (int k = 0; k < 4; k++) {
      for (int w = 0; w < 8; w++) {
        due("SET " + k + ", word " + w, house.set(k, w), sets[k][w]);
      }
    }
    due("[^..] of one byte", house.program(6, 0), 0);
    due("that byte", house.program(6, 1), 0);
  }

  /** "Of a NAME its RULE's", wherever that stands. */
  private static void firstThroughSixty() {
    for (String own : new String[] {"'x'.", "'x'?.?", "('x'/'x'.)", "{'x'}", "'x'^2", "'x'+"}) {
      StringBuilder up = new StringBuilder();
      StringBuilder down = new StringBuilder();
      StringBuilder mixed = new StringBuilder();
      for (int k = 0; k < 60; k++) {
        up.append(String.format("r%02d=%s;", k, k == 59 ? own : String.format("r%02d.?", k + 1)));
        down.append(String.format("r%02d=%s;", k, k == 0 ? own : String.format("r%02d.?", k - 1)));
        int goal = (k + 37) % 60;
        mixed.append(String.format("r%02d=%s;", k, k == 23 ? own : String.format("r%02d.?", goal)));
      }
      int all = own.endsWith("?") ? -1 : 0;
      MatchHouse inner = good("a='w' (b 'y')?;b=c;c=" + own + ";d='v'(c/'u')?;", 4);
      due("TEST of a NAME that stands behind", inner.program(3, 0), all == 0 ? 4 : 6);
      due("its byte", inner.program(3, 1), all == 0 ? 'x' : 0);
      for (StringBuilder text : new StringBuilder[] {up, down, mixed}) {
        MatchHouse house = good(text.toString(), 60);
        for (int k = 0; k < 60; k++) {
          int due = all != 0 ? -1 : 1 << 24;
          due("FIRST of r" + k + " with " + own, house.rule(k, 7), due);
          due("NULLABLE of r" + k + " with " + own, house.rule(k, 0), all != 0 ? 1 : 0);
        }
      }
    }
  }

  /** "The following are the least that are so": RULES that call themselves alone are nothing. */
  private static void factsOfTheLeast() {
    facts("'x' a", 0, 0, 0);
    facts("'x' a/'y'", 0, 0, 0);
    facts("'x' a/", 1, 0, 1);
    facts("'x' a?", 0, 1, 0);
    facts("'x' a*", 0, 1, 0);
    facts("'x' a+", 0, 0, 0);
    facts("'x'+", 0, 1, 0);
    facts("'x' !a", 0, 0, 0);
    facts("'x' &a", 0, 0, 0);
    facts("'x' (a/)", 0, 1, 0);
    facts("{'x' {a}?}", 0, 1, 0);
    facts("('x'/'yz')^1", 0, 0, 0);
    facts("'x'?^2", 1, 0, 1);
    facts("'x' 'y'?^9", 0, 1, 0);
    facts("''/'x'", 1, 0, 1);
    facts("'x'/'yy'?", 1, 0, 1);
    facts("'x' 'y'?/'z'", 0, 1, 0);
  }

  private static void facts(String text, int nullable, int sure, int nofail) {
    MatchHouse house = good("a=" + text + ";", 1);
    due("NULLABLE of " + text, house.rule(0, 0), nullable);
    due("SURE of " + text, house.rule(0, 1), sure);
    due("NOFAIL of " + text, house.rule(0, 2), nofail);
  }

  private static void first(String text, String bytes) {
    MatchHouse house = good("a=" + text + ";n='n'?;p='p';", 3);
    for (int w = 0; w < 8; w++) {
      int word = 0;
      for (int i = 0; i < bytes.length(); i++) {
        word |= bytes.charAt(i) / 32 == w ? 1 << bytes.charAt(i) % 32 : 0;
      }
      due("FIRST of " + text + ", word " + w, house.rule(0, 4 + w), word);
    }
  }

  /** "Those of its parts up to the first one that is not NULLABLE, that one's too" */
  private static void firstOfEachKind() {
    first("'xy'", "x");
    first("'x'?'y'", "xy");
    first("'x'*'y'?'z' 'w'", "xyz");
    first("n p 'x'", "np");
    first("p n", "p");
    first("n n", "n");
    first("&'x' 'y'", "y");
    first("!'x' 'y'", "y");
    first("&'x'", "");
    first("'x'/'yz'/n", "xyn");
    first("('x'/'y')?{'z'?}^1", "xyz");
    first("{'x'}", "x");
    first("'x'^3", "x");
    first("'x'?^3 'y'", "xy");
    first("'x'+'y'", "x");
    first("'a'i", "aA");
    first("[]", "");
    first("[] 'x'", "");
    first("''", "");
    first("'' 'x'", "x");
    first("[\\x00\\x1f\\x20\\x3f\\xe0\\xff]", "\u0000\u001f\u0020\u003f\u00e0\u00ff");
  }

  /** "NONE when there is none such, or for another what." */
  private static void ruleOfNone() {
    MatchHouse house = new MatchHouse();
    due("no GRAMMAR: rule(0, 0)", house.rule(0, 0), -1);
    due("no GRAMMAR: rule(-1, 0)", house.rule(-1, 0), -1);
    Dues.grammar(house, "a=.;b='x'?;");
    int[] a = {0, 1, 0, 2, -1, -1, -1, -1, -1, -1, -1, -1};
    int[] b = {1, 0, 1, 4, 0, 0, 0, 1 << 24, 0, 0, 0, 0};
    for (int what = 0; what < 12; what++) {
      due("rule(0, " + what + ")", house.rule(0, what), a[what]);
      due("rule(1, " + what + ")", house.rule(1, what), b[what]);
    }
    for (int odd : new int[] {-1, 2, 60, Integer.MIN_VALUE, Integer.MAX_VALUE, 1 << 29}) {
      for (int what = 0; what < 12; what++) {
        due("rule(" + odd + ", " + what + ")", house.rule(odd, what), -1);
      }
    }
    for (int odd : new int[] {-1, 12, 13, Integer.MIN_VALUE, Integer.MAX_VALUE}) {
      due("rule(0, " + odd + ")", house.rule(0, odd), -1);
      due("rule(1, " + odd + ")", house.rule(1, odd), -1);
    }
    Dues.grammar(house, "a=.;");
    due("a RULE of the GRAMMAR that was", house.rule(1, 0), -1);
  }
}
