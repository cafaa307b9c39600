/** The edges that Parts III, IV, VII and promises 6, 8 to 10, 12 to 15 name. */
public final class EdgesOfProgramTest {
  private static final Dues DUES = new Dues("EdgesOfProgramTest");
  private static final int MIN = Integer.MIN_VALUE;
  private static final int MAX = Integer.MAX_VALUE;
  private static final int CHAR = 0;
  private static final int SET = 1;
  private static final int ANY = 2;
  private static final int SPAN = 3;
  private static final int TESTCHAR = 4;
  private static final int TESTSET = 5;
  private static final int TESTANY = 6;
  private static final int JUMP = 7;
  private static final int CHOICE = 8;
  private static final int CALL = 14;
  private static final int RET = 15;

  public static void main(String[] args) {
    instructionsTwoThousand();
    farMoreThanTwoThousand();
    setsOneHundredTwentyEight();
    equalSetsOnce();
    byHowManyBytes();
    byEachByte();
    jumpsAsLongAsThereIsOne();
    callAtTheVeryEnd();
    nothingBehindTheSubject();
    noIfThereIsNoChoice();
    entriesAndEventsGoBack();
    oneMoreThanTheStack();
    stackOfOneAndOfThousand();
    peakOfNone();
    peakOfWhatDidNotStop();
    stepsThreeHundredThousand();
    eventsOfWhatTookBytes();
    armPlaceAndStack();
    armWithoutGrammar();
    refusedArmChangesNothing();
    refusedMatchChangesNothing();
    armedMemory();
    shortAndNear();
    jumpsBecomeNearOnceOnly();
    bundlesExactAndOneBeyond();
    groupsHaveTheirNopsOnce();
    choiceTargetsAndCallsBeginBundles();
    imageOfSixtyOneThousand();
    programOfNone();
    setOfNone();
    imageOfNone();
    programBehindOthers();
    countsAndOtherWhats();
    DUES.finish();
  }

  private static void due(String what, long got, long want) {
    DUES.due(what, got, want);
  }

  private static void due(String what, boolean got, boolean want) {
    DUES.due(what, got, want);
  }

  private static String told(String text) {
    return text.length() < 60 ? text : text.substring(0, 40) + ".. (" + text.length() + ")";
  }

  private static MatchHouse with(String text) {
    MatchHouse house = new MatchHouse();
    due("grammar " + told(text), Dues.grammar(house, text) > 0, true);
    due("fault(0) of " + told(text), house.fault(0), 0);
    return house;
  }

  private static MatchHouse with(String text, String subject) {
    MatchHouse house = with(text);
    due("subject", Dues.subject(house, subject), subject.length());
    return house;
  }

  private static void tooLarge(String text) {
    MatchHouse house = new MatchHouse();
    due("grammar " + told(text), Dues.grammar(house, text), -1);
    due("fault(0) of " + told(text), house.fault(0), 5);
    due("fault(1) of " + told(text), house.fault(1), text.length());
    for (int what = 0; what < 5; what++) {
      due("count(" + what + ") behind " + told(text), house.count(what), 0);
    }
  }

  private static String many(String word, int times) {
    return word.repeat(times);
  }

  /** "More than 2000 instructions .. too large." */
  private static void instructionsTwoThousand() {
    MatchHouse house = with("a=" + many(".", 1997) + ";");
    due("count(1)", house.count(1), 2000);
    due("program(1999, 0)", house.program(1999, 0), RET);
    due("program(1998, 0)", house.program(1998, 0), ANY);
    due("program(2000, 0)", house.program(2000, 0), -1);
    due("program(2000, 3)", house.program(2000, 3), -1);
    Dues.subject(house, many("x", 1997));
    due("match of 1997", house.match(0, 1), 1997);
    due("no match of 1996", house.match(1, 1), -2);
    int place = house.program(1999, 3);
    due("the last one's place", place > house.program(1998, 3), true);
    due("its sub", house.image(place), 0x81);
    due("its sub esi", house.image(place + 1), 0xEE);
    house = with("a=" + many(".", 1992) + "'xy'?;", many("x", 1993));
    due("count(1) with a COMMIT", house.count(1), 2000);
    due("COMMIT's target", house.program(1998, 2), 1999);
    due("OVER", house.match(0, 1), -3);
    due("a CHOICE that fails", house.match(0, 2), 1992);
    Dues.subject(house, many("x", 1993) + "y");
    due("a COMMIT to the last one", house.match(0, 2), 1994);
    due("NO", house.match(3, 2), -2);
    tooLarge("a=" + many(".", 1998) + ";");
    tooLarge("a=" + many(".", 3000) + ";");
    StringBuilder sixty = new StringBuilder();
    for (int k = 0; k < 60; k++) {
      sixty.append("r").append(k).append("=").append(many(".", 31)).append(";");
    }
    house = with(sixty.toString());
    due("count(1) of 60 RULES", house.count(1), 2 + 60 * 32);
    String rest = sixty.substring(0, sixty.length() - 1);
    house = with(rest + many(".", 78) + ";");
    due("count(1) of 60 RULES and 78", house.count(1), 2000);
    tooLarge(rest + many(".", 79) + ";");
    // The least and the most that each kind of part takes.
    String full = "a=" + many(".", 1990);
    due("TEST, CHOICE, CHAR, CHAR, COMMIT", with(full + "'xy'?..;").count(1), 2000);
    tooLarge(full + "'xy'?...;");
    due("TEST, CHOICE, CHAR, CHAR, BACKCOMMIT, FAIL", with(full + "&'xy'.;").count(1), 2000);
    tooLarge(full + "&'xy'..;");
    due("TEST, CHOICE, CHAR, CHAR, FAILTWICE", with(full + "!'xy'..;").count(1), 2000);
    tooLarge(full + "!'xy'...;");
    due("CHAR, SPAN", with(full + "'x'+.....;").count(1), 2000);
    tooLarge(full + "'x'+......;");
    due("CHAR, CHAR, TEST, CHOICE, CHAR, CHAR, PARTIAL", with(full + "'xy'+;").count(1), 2000);
    tooLarge(full + "'xy'+.;");
    due("OPEN, CLOSE", with(full + "{}.....;").count(1), 2000);
    tooLarge(full + "{}......;");
    due("CHOICE, COMMIT", with(full + "(/).....;").count(1), 2000);
    tooLarge(full + "(/)......;");
    due("TEST, FAIL; TEST, JUMP, FAIL", with(full + "!.&...;").count(1), 2000);
    tooLarge(full + "!.&....;");
  }

  /** Numbers that an int has no room for are too large, too; what is not written is not. */
  private static void farMoreThanTwoThousand() {
    String text = ".";
    for (int k = 1; k <= 30; k++) {
      text = "(" + text + "^9^9^9)";
      if (k == 1) {
        due("729 and 3", with("a=" + text + ";").count(1), 732);
      } else {
        tooLarge("a=" + text + ";");
        tooLarge("a=" + text + text + "*;");
      }
    }
    due("TEST, FAIL", with("a=!('x' " + text + "?);").count(1), 5);
    due("TEST, JUMP, FAIL", with("a=&('x' " + text + "*);").count(1), 6);
    due("none, often", with("a=" + text.replace(".", "()") + ";").count(1), 3);
    MatchHouse house = with("a=(" + many("()", 1990) + ".)^9^9^9;", many("x", 729));
    due("none beside one, often", house.count(1), 732);
    due("match of 729", house.match(0, 1), 729);
    StringBuilder rules = new StringBuilder("a=.;");
    for (int k = 1; k < 60; k++) {
      rules.append("r").append(k).append("=.^9^9^9 .^9^9^9 .^9^9^9;");
    }
    tooLarge(rules.toString());
  }

  private static String sets(int from, int to) {
    StringBuilder text = new StringBuilder();
    for (int k = from; k < to; k++) {
      text.append(String.format("[\\x%02x\\xff]", k));
    }
    return text.toString();
  }

  /** "More than .. 128 SETS: too large." */
  private static void setsOneHundredTwentyEight() {
    MatchHouse house = with("a=" + sets(0, 127) + ";");
    due("count(2) of 127", house.count(2), 127);
    house = with("a=" + sets(0, 128) + ";");
    due("count(2) of 128", house.count(2), 128);
    due("set(0, 0)", house.set(0, 0), 1);
    due("set(127, 3)", house.set(127, 3), 1 << 31);
    due("set(127, 7)", house.set(127, 7), 1 << 31);
    due("set(128, 7)", house.set(128, 7), 0);
    due("program(129, 1)", house.program(129, 1), 127);
    StringBuilder all = new StringBuilder();
    for (int k = 0; k < 128; k++) {
      all.append((char) k);
    }
    Dues.subject(house, all.toString());
    due("each SET has its byte", house.match(0, 1), 128);
    Dues.subject(house, all.substring(0, 127) + "\u00ff");
    due("and the other one", house.match(0, 1), 128);
    Dues.subject(house, all.substring(0, 127) + "\u0080");
    due("the last one has no other", house.match(0, 1), -2);
    tooLarge("a=" + sets(0, 129) + ";");
    tooLarge("a=" + sets(0, 128) + "[\\x80\\xff]?;");
    tooLarge("a=" + sets(0, 128) + "'x'*;");
    tooLarge("a=" + sets(0, 128) + ";b=[\\x80\\xff];");
    due("bytes, all and tests of them are no SETS",
        with("a=" + sets(0, 128) + "'x'.'y'?.?!'z'&.('q'/);").count(2), 128);
    due("what is not written has none",
        with("a=!('x' (" + sets(0, 50) + sets(50, 128) + sets(128, 140) + ")?);").count(2), 0);
  }

  /** "SETS are numbered as they first stand in the PROGRAM .., equal ones once." */
  private static void equalSetsOnce() {
    MatchHouse house = with("a=" + sets(0, 128) + sets(100, 128) + sets(0, 3) + ";");
    due("count(2) of 128, some twice", house.count(2), 128);
    due("the last but two", house.program(2 + 128 + 28, 1), 0);
    due("the last", house.program(2 + 128 + 28 + 2, 1), 2);
    house = with("a=b[xy];b=[yz]/'q'[xy]/'r'[]/'s''t'*;");
    due("the first one that stands", house.program(3, 1), 0);
    due("set(0, 3)", house.set(0, 3), 3 << 24);
    due("count(2)", house.count(2), 4);
    due("set(1, 3)", house.set(1, 3), 6 << 24);
    due("set(2, 3)", house.set(2, 3), 0);
    due("set(3, 3)", house.set(3, 3), 1 << 20);
    house = with("a=[ab][ba][a-b][\\x61b][^\\x00-`c-\\xff]('a'/'b')'a'i*[Aa]*;");
    due("as equal as they are", house.count(2), 2);
  }

  /** "TESTCHAR b L if it is one byte, TESTANY L if all 256, else TESTSET s L"; PLAIN, likewise. */
  private static void byHowManyBytes() {
    String[] plain = {"[]", "[x]", "[xy]", "[^x]", "[^]", "[\\x00-\\xff]", "[\\x01-\\xff]", ".",
        "'x'", "'x'i", "'1'i", "('x'/'y')", "('x'/.)", "([]/'x')"};
    int[] kinds = {SET, CHAR, SET, SET, ANY, ANY, SET, ANY, CHAR, SET, CHAR, SET, ANY, CHAR};
    for (int k = 0; k < plain.length; k++) {
      due("PLAIN " + plain[k], with("a=" + plain[k] + ";").program(2, 0), kinds[k]);
      MatchHouse house = with("a=" + plain[k] + "?;");
      due("TEST of " + plain[k], house.program(2, 0), kinds[k] + TESTCHAR);
      due("then " + plain[k], house.program(3, 0), kinds[k]);
      due("the TEST's target", house.program(2, 2), 4);
      house = with("a=(" + plain[k] + "'q')?;");
      due("TEST of a SEQUENCE of " + plain[k], house.program(2, 0), kinds[k] + TESTCHAR);
      due("its CHOICE", house.program(3, 0), CHOICE);
      house = with("a=" + plain[k] + "*;");
      due("SPAN of " + plain[k], house.program(2, 0), SPAN);
      due("the SPAN's SET", house.count(2), 1);
    }
    MatchHouse house = with("a=(''/'x')?;");
    due("no TEST of what is NULLABLE", house.program(2, 0), CHOICE);
    house = with("a=(!'x'[])?;");
    due("a TEST of none", house.program(2, 0), TESTSET);
    house = with("a=(&'x')?;");
    due("NULLABLE, though it has no FIRST", house.program(2, 0), CHOICE);
    house = with("a='x'/'yz';");
    due("SURE: TEST and JUMP", house.program(4, 0), RET);
    house = with("a='xy'/'zw';");
    due("no byte in common: TEST", house.program(2, 0), TESTCHAR);
    due("no byte in common: no CHOICE", house.program(3, 0), CHAR);
    house = with("a='xy'/'xw';");
    due("a byte in common: CHOICE", house.program(3, 0), CHOICE);
    house = with("a='xy'/'zw'?;");
    due("the others NULLABLE: CHOICE", house.program(3, 0), CHOICE);
    house = with("a='x'?/'zw';");
    due("the first NULLABLE: no TEST", house.program(2, 0), CHOICE);
    house = with("a=b/'zw';b='xy';");
    due("a NAME as the first: TEST", house.program(2, 0), TESTCHAR);
    due("a NAME as the first: no CHOICE", house.program(3, 0), JUMP);
    house = with("a=b/'xw';b='xy';");
    due("a NAME as the first: CHOICE", house.program(3, 0), CHOICE);
    house = with("a=[\\x00-\\x7e]'y'/[\\x7f-\\xff]'w';");
    due("neighbours, but none in common", house.program(3, 0), SET);
    house = with("a=[\\x00-\\x7f]'y'/[\\x7f-\\xff]'w';");
    due("one in common", house.program(3, 0), CHOICE);
    for (int b = 0; b < 256; b++) {
      String x = String.format("\\x%02x", b);
      house = with("a='" + x + "y'/'" + x + "w'/'" + String.format("\\x%02x", b ^ 1) + "w';");
      due("the first two have " + b + " in common", house.program(3, 0), CHOICE);
      due("the last two have none", house.program(8, 0), CHAR);
    }
  }

  /** Each byte as it stands in CHAR and TESTCHAR, and as the SUBJECT has it. */
  private static void byEachByte() {
    for (int b = 0; b < 256; b++) {
      String x = String.format("\\x%02x", b);
      MatchHouse house = with("a='" + x + "''" + x + "'?;");
      due("CHAR " + b, house.program(2, 1), b);
      due("TESTCHAR " + b, house.program(3, 1), b);
      String two = "" + (char) b + (char) b;
      Dues.subject(house, two);
      due("match of " + b, house.match(0, 1), 2);
      Dues.subject(house, (char) b + "" + (char) (b ^ 128));
      due("match of " + b + " and another", house.match(0, 1), 1);
      due("match of another", house.match(1, 1), -2);
      house = with("a=[" + x + "]*[^" + x + "];", two + (char) (b ^ 1));
      due("a SPAN of " + b, house.match(0, 1), 3);
      Dues.subject(house, two);
      due("a SET without " + b, house.match(0, 1), -2);
    }
  }

  /** "A target at which a JUMP stands becomes the target of that, as long as there is one" */
  private static void jumpsAsLongAsThereIsOne() {
    StringBuilder chain = new StringBuilder();
    for (int k = 0; k < 59; k++) {
      chain.append(String.format("r%02d=r%02d;", k, k + 1));
    }
    MatchHouse house = with(chain + "r59='x';", "x");
    due("count(1)", house.count(1), 2 + 59 * 2 + 2);
    due("CALL's target", house.program(0, 2), 120);
    for (int k = 0; k < 59; k++) {
      due("JUMP " + k, house.program(2 + 2 * k, 0), JUMP);
      due("target of JUMP " + k, house.program(2 + 2 * k, 2), 120);
      due("RET " + k, house.program(3 + 2 * k, 0), RET);
      due("start of " + k, house.rule(k, 3), 2 + 2 * k);
    }
    due("match through 60", house.match(0, 1), 1);
    house = with(chain + "r59=;");
    due("CALL's target, a RET", house.program(0, 2), 120);
    for (int k = 0; k < 59; k++) {
      due("a JUMP to a RET is that " + k, house.program(2 + 2 * k, 0), RET);
      due("it has no target " + k, house.program(2 + 2 * k, 2), -1);
    }
    due("match of nothing", house.match(0, 1), 0);
    // The first CALL has no RET behind it; END is none.
    house = with("a=b;b=.;");
    due("CALL 0", house.program(0, 0), CALL);
    due("CALL 0 goes on", house.program(0, 2), 4);
    house = with("a=('x' b/'yy')?.;b=.;");
    due("a TEST's target", house.program(2, 2), 11);
    due("a JUMP's target, a COMMIT", house.program(7, 2), 10);
  }

  /** "A CALL right behind which a RET stands is a JUMP": the PROGRAM's last two, too. */
  private static void callAtTheVeryEnd() {
    MatchHouse house = with("b=.;a=b;", "x");
    due("count(1)", house.count(1), 6);
    due("the last but one", house.program(4, 0), JUMP);
    due("its target", house.program(4, 2), 2);
    due("the last one", house.program(5, 0), RET);
    house = with("b=;a=b;");
    due("a JUMP to a RET", house.program(3, 0), RET);
    house = with("b=.;a=.b;c=a b;");
    due("a CALL that has no RET behind", house.program(7, 0), CALL);
    due("one that has", house.program(8, 0), JUMP);
    // The JUMPS are followed ahead of that: the RET behind this CALL is one to a JUMP to a RET.
    house = with("a=('p' b/'q')/'zz';b=.;", "px");
    due("a CALL ahead of two JUMPS", house.program(5, 0), JUMP);
    due("its target", house.program(5, 2), 12);
    due("the first JUMP, a RET", house.program(6, 0), RET);
    due("the second one", house.program(8, 0), RET);
    due("match", house.match(0, 1), 2);
    house = with("b=!.;a=b/.;");
    due("a CALL ahead of a COMMIT stays", house.program(6, 0), CALL);
  }

  /** "PLAIN takes the next byte, if there is one": no byte behind the SUBJECT is one. */
  private static void nothingBehindTheSubject() {
    String[] takers = {"'\\x00'", ".", "[\\x00x]", "[^x]"};
    for (String taker : takers) {
      for (int size : new int[] {0, 1, 3999, 4000}) {
        MatchHouse house = with("a=" + taker + ";b=.;", many("\u0000", size));
        due(taker + " at the end of " + size, house.match(size, 9), -2);
        due(taker + " at the last of " + size, house.match(size - 1, 9), size == 0 ? -1 : 1);
        house = with("a=" + taker + "?'q'?;", many("\u0000", size));
        due(taker + "? at the end of " + size, house.match(size, 9), 0);
        house = with("a=" + taker + "*;", many("\u0000", size));
        due(taker + "* of " + size, house.match(0, 9), size);
        house = with("a=!" + taker + ";", many("\u0000", size));
        due("!" + taker + " at the end of " + size, house.match(size, 9), 0);
        house = with("a=&" + taker + ";", many("\u0000", size));
        due("&" + taker + " at the end of " + size, house.match(size, 9), -2);
        due("&" + taker + " at the last of " + size, house.match(size - 1, 9), size == 0 ? -1 : 0);
      }
    }
  }

  /** "FAIL: the last entry that is a choice .. NO, if there is none." */
  private static void noIfThereIsNoChoice() {
    MatchHouse house = with("a='x';", "");
    due("no entry but a return", house.match(0, 1), -2);
    due("its peak", house.peak(), 1);
    due("its STOP", house.get(10), 1);
    house = with("a=b 'q';b=c 'q';c=d 'q';d='x';", "y");
    due("four returns, no choice", house.match(0, 4), -2);
    due("its peak", house.peak(), 4);
    house = with("a=(b 'q'/c 'q')'q';b=c '1'/c '2';c='x';", "y");
    due("choices that are all gone", house.match(0, 9), -2);
    house = with("a=b 'q'/c;b=c '1'/c '2';c='x';", "x");
    due("returns behind a choice go, too", house.match(0, 9), 1);
    house = with("a=!'xy';", "xy");
    due("FAILTWICE: the choice goes, and none is left", house.match(0, 9), -2);
    house = with("a=!'xy'/'xyz';", "xyz");
    due("FAILTWICE: one is left", house.match(0, 9), 3);
    house = with("a=&('x' 'z'/'x' 'q')/'x';", "xy");
    due("BACKCOMMIT is not come to", house.match(0, 9), 1);
  }

  private static void took(String text, String subject, int taken, int... events) {
    MatchHouse house = with(text, subject);
    due(text + " of " + subject, house.match(0, 99), taken);
    for (int i = 0; i < events.length / 3; i++) {
      for (int what = 0; what < 3; what++) {
        due("event(" + i + ", " + what + ") of " + text, house.event(i, what), events[3 * i + what]);
      }
    }
    due("no more EVENTS of " + text, house.event(events.length / 3, 0), -1);
  }

  /** "Place and EVENTS become what it tells": of each instruction that an entry ends with. */
  private static void entriesAndEventsGoBack() {
    took("a='xy'?'z';", "xyz", 3);
    took("a='xy'?'z';", "xyq", -2);
    took("a='xy'?'z';", "xz", -2);
    took("a={.}'q'/{.}{.};", "xy", 2, 1, 0, 0, 1, 1, 1, 2, 0, 1, 2, 1, 2);
    took("a={{.}'q'}?{.};", "xy", 1, 2, 0, 0, 2, 1, 1);
    took("a=({.}'q')*{.};", "xqyqz", 5, 0, 0, 0, 0, 1, 1, 0, 0, 2, 0, 1, 3, 1, 0, 4, 1, 1, 5);
    took("a=&({.}{.}){.};", "xy", 1, 2, 0, 0, 2, 1, 1);
    took("a=!({.}{.}){.};", "x", 1, 2, 0, 0, 2, 1, 1);
    took("a=!({.}{.}){.};", "xy", -2);
    took("a={.}(!({.}'q')'z')?{.};", "xyz", 2, 0, 0, 0, 0, 1, 1, 2, 0, 1, 2, 1, 2);
    took("a={b 'q'}/b;b={c}/'z';c=.{};", "x", 1, 1, 0, 0, 2, 0, 1, 2, 1, 1, 1, 1, 1);
  }

  private static void meter(String text, String subject, int taken, int most) {
    MatchHouse house = with(text, subject);
    due(text + " with " + most, house.match(0, most), taken);
    due(text + ": peak with " + most, house.peak(), most);
    due(text + " with 1000", house.match(0, 1000), taken);
    due(text + ": peak with 1000", house.peak(), most);
    for (int stack = Math.max(1, most - 6); stack < most; stack++) {
      due(text + " with " + stack, house.match(0, stack), -3);
      due(text + ": peak with " + stack, house.peak(), stack);
      due(text + ": eax with " + stack, house.get(0), -2);
      due(text + ": no EVENT with " + stack, house.event(0, 0), -1);
    }
  }

  /** "When one more would be more than the STACK that was told: OVER." */
  private static void oneMoreThanTheStack() {
    meter("a=;", "", 0, 1);
    meter("a=b.?;b=;", "", 0, 2);
    meter("a=b;b=c;c=;", "", 0, 1);
    meter("a='xy'?;", "x", 0, 2);
    meter("a='xy'?;", "y", 0, 1);
    meter("a={};", "", 0, 3);
    meter("a={b}{}{};b='x';", "y", -2, 3);
    meter("a={}{};", "", 0, 5);
    meter("a={'x'};", "x", 1, 3);
    meter("a={'x'};", "y", -2, 2);
    meter("a={{{}}};", "", 0, 7);
    meter("a='xy'?'xy'?;", "xx", 0, 2);
    meter("a={.}'q'/{.}{.};", "xy", 2, 5);
    meter("a=!({}{}{});", "", -2, 8);
    meter("a=&({}{}{}){};", "", 0, 8);
    meter("a=&({}){}{}{}{};", "", 0, 9);
    meter("a=({.}'q')*;", "xqxqxqy", 6, 10);
    meter("a=b b b;b={'x'}/'y';", "yxx", 3, 5);
    meter("a='x' a 'y'/;", "xxxx", 0, 9);
    meter("a='x' a/;", "xxxx", 4, 1);
    meter("a=('x''y'/'xz')^3;", "xyxzxy", 6, 2);
  }

  /** "A STACK of 1 .. 1000" at its edges, with as many EVENTS, ENTRIES as it has room for. */
  private static void stackOfOneAndOfThousand() {
    meter("a='x';", "x", 1, 1);
    meter("a=.*;", many("x", 4000), 4000, 1);
    meter("a={'x'}*'yy'?;", many("x", 499) + "y", 499, 1000);
    meter("s=a.?;a='x' a 'y'/;", many("x", 499), 1, 1000);
    MatchHouse house = with("a={'x'}*;", many("x", 499));
    due("998 EVENTS", house.match(0, 1000), 499);
    due("peak of 998 EVENTS", house.peak(), 999);
    due("event(997, 0)", house.event(997, 0), 0);
    due("event(997, 1)", house.event(997, 1), 1);
    due("event(997, 2)", house.event(997, 2), 499);
    due("event(998, 2)", house.event(998, 2), -1);
    Dues.subject(house, many("x", 500));
    due("1000 EVENTS and a return", house.match(0, 1000), -3);
    due("peak of them", house.peak(), 1000);
    house = with("a='x' a 'y'/'z';", many("x", 998) + "z");
    due("1000 ENTRIES", house.match(0, 1000), -2);
    due("peak of 1000 ENTRIES", house.peak(), 999);
    house = with("a='x' a 'y'/'z';", many("x", 999) + "z" + many("y", 999));
    due("1000 returns", house.match(0, 1000), 1999);
    due("peak of 1000 returns", house.peak(), 1000);
    Dues.subject(house, many("x", 1000) + "z" + many("y", 1000));
    due("1001 returns", house.match(0, 1000), -3);
    due("peak of 1001 returns", house.peak(), 1000);
  }

  /** "Of the latest match() that was no -1 .. 0 when there was none." */
  private static void peakOfNone() {
    MatchHouse house = new MatchHouse();
    due("a new one", house.peak(), 0);
    due("match without GRAMMAR", house.match(0, 1), -1);
    due("peak without GRAMMAR", house.peak(), 0);
    Dues.grammar(house, "a={};");
    due("peak behind grammar()", house.peak(), 0);
    due("a refused match", house.match(1, 9), -1);
    due("peak behind it", house.peak(), 0);
    house.arm(0, 9);
    due("run", house.run(100000) > 9, true);
    due("peak behind arm(), run()", house.peak(), 0);
    due("event behind them", house.event(0, 0), -1);
    due("match", house.match(0, 9), 0);
    due("peak", house.peak(), 3);
    due("a refused match", house.match(0, 1001), -1);
    due("peak stays", house.peak(), 3);
    house.arm(0, 2);
    house.run(100000);
    due("peak stays behind arm(), run()", house.peak(), 3);
    due("match with 2", house.match(0, 2), -3);
    due("peak with 2", house.peak(), 2);
    Dues.grammar(house, "a=;");
    due("peak stays behind grammar()", house.peak(), 2);
    due("match of nothing", house.match(0, 2), 0);
    due("peak of nothing", house.peak(), 1);
  }

  private static String slow(String pad, int options, String last) {
    return "a=(&(.*).)*" + pad + many("'q'?", options) + last + ";";
  }

  private static int stepsOf(MatchHouse house, int stack) {
    house.arm(0, stack);
    return house.run(100000) + house.run(100000) + house.run(100000) + house.run(100000);
  }

  /** "When it did not stop, the STACK less the least ebp so far; at most the STACK in any case" */
  private static void peakOfWhatDidNotStop() {
    String subject = many("x", 139);
    // The dec of the second OPEN is step 300000: of STACK 3 it makes -1.
    MatchHouse house = with(slow("&''", 605, "{}{}"), subject);
    due("steps of OVER", stepsOf(house, 3), 300002);
    due("match ahead of js", house.match(0, 3), -4);
    due("ebp", house.get(5), -1);
    due("at most the STACK", house.peak(), 3);
    due("match with 1000", house.match(0, 1000), -4);
    due("ebp of 1000", house.get(5), 996);
    due("the STACK less ebp", house.peak(), 4);
    // Here it is step 300001.
    house = with(slow("", 626, "{}{}"), subject);
    due("steps of OVER", stepsOf(house, 3), 300003);
    due("match ahead of dec", house.match(0, 3), -4);
    due("ebp", house.get(5), 0);
    due("the STACK", house.peak(), 3);
    due("match with 1000", house.match(0, 1000), -4);
    due("ebp of 1000", house.get(5), 997);
    due("one less", house.peak(), 3);
    due("no EVENT", house.event(0, 0), -1);
  }

  /** "At most 300000 STEPS .. -4 when it did not stop." */
  private static void stepsThreeHundredThousand() {
    String subject = many("x", 139);
    MatchHouse house = with(slow("", 624, "{}{}"), subject);
    due("steps of OVER", stepsOf(house, 3), 299999);
    due("299999 STEPS, and the STOP", house.match(0, 3), -3);
    due("its STOP", house.get(10), 1);
    house = with(slow("", 635, ".?"), subject);
    due("steps of a match", stepsOf(house, 9), 300000);
    due("300000 STEPS, and no STOP", house.match(0, 9), -4);
    due("no STOP", house.get(10), 0);
    due("the STOP comes when a STEP is tried", house.run(1), 0);
    due("then", house.get(10), 1);
    due("taken", house.get(0), 139);
    house = with(slow("", 635, "[qr]?"), subject);
    due("steps of another", stepsOf(house, 9), 299999);
    due("299999 STEPS", house.match(0, 9), 139);
    due("STOP of 299999", house.get(10), 1);
  }

  /** "Of the latest match() .., if that took bytes, or 0 of them"; "NONE when there is none such" */
  private static void eventsOfWhatTookBytes() {
    MatchHouse house = with("a={}{'x'?};", "x");
    int[] odd = {-1, 4, 5, 1000, MIN, MAX, 1 << 29};
    due("ahead of any", house.event(0, 0), -1);
    for (int place = 1; place >= 0; place--) {
      due("match", house.match(place, 9), 1 - place);
      int[][] all = {{0, 0, place}, {0, 1, place}, {1, 0, place}, {1, 1, 1}};
      for (int i = 0; i < 4; i++) {
        for (int what = 0; what < 3; what++) {
          due("event(" + i + ", " + what + ")", house.event(i, what), all[i][what]);
        }
        for (int what : new int[] {-1, 3, MIN, MAX}) {
          due("event(" + i + ", " + what + ")", house.event(i, what), -1);
        }
      }
      for (int i : odd) {
        for (int what = 0; what < 3; what++) {
          due("event(" + i + ", " + what + ")", house.event(i, what), -1);
        }
      }
    }
    due("a refused match", house.match(2, 9), -1);
    due("EVENTS stay", house.event(3, 1), 1);
    due("OVER", house.match(0, 4), -3);
    due("no EVENTS of OVER", house.event(0, 0), -1);
    house.match(0, 9);
    Dues.grammar(house, "a={}'q';");
    due("EVENTS stay behind grammar()", house.event(3, 0), 1);
    Dues.subject(house, "");
    due("EVENTS stay behind subject()", house.event(3, 2), 1);
    due("NO", house.match(0, 9), -2);
    due("no EVENTS of NO", house.event(0, 0), -1);
    house = with("a=.;", "x");
    due("a match without EVENTS", house.match(0, 9), 1);
    due("none", house.event(0, 0), -1);
    house = with("a=" + many("{", 40) + many("}", 40) + many("{}", 160) + ";", "");
    due("200 {", house.match(0, 401), 0);
    due("event(39, 0)", house.event(39, 0), 39);
    due("event(40, 0)", house.event(40, 0), 39);
    due("event(79, 0)", house.event(79, 0), 0);
    due("event(399, 0)", house.event(399, 0), 199);
    due("event(399, 1)", house.event(399, 1), 1);
    due("event(400, 0)", house.event(400, 0), -1);
  }

  /** "A STACK of 1 .. 1000, at a place 0 .. the SUBJECT's length" */
  private static void armPlaceAndStack() {
    for (int size : new int[] {0, 1, 3, 3999, 4000}) {
      MatchHouse house = with("a=;", many("x", size));
      int[] places = {MIN, -1, 0, size, size + 1, 4000, 4001, MAX};
      int[] stacks = {MIN, -1, 0, 1, 2, 999, 1000, 1001, 65536, MAX};
      for (int place : places) {
        for (int stack : stacks) {
          boolean fine = place >= 0 && place <= size && stack >= 1 && stack <= 1000;
          String call = "(" + place + ", " + stack + ") of " + size;
          due("arm" + call, house.arm(place, stack), fine);
          due("match" + call, house.match(place, stack), fine ? 0 : -1);
          if (fine) {
            due("ebx behind match" + call, house.get(3), place);
            due("ebp behind match" + call, house.get(5), stack);
          }
        }
      }
    }
  }

  /** "False when there is no GRAMMAR": a FAULT makes none. */
  private static void armWithoutGrammar() {
    MatchHouse house = new MatchHouse();
    due("arm of a new one", house.arm(0, 1), false);
    for (String text : new String[] {"", "a=", "a=b;", "a=a;", "a=''*;", "a=('x'^9^9^9)^9;"}) {
      due("grammar " + text, Dues.grammar(house, text), -1);
      due("arm behind " + text, house.arm(0, 1), false);
      due("match behind " + text, house.match(0, 1), -1);
      due("count(7) behind " + text, house.count(7), 0);
    }
    Dues.grammar(house, "a=;");
    due("arm with a GRAMMAR", house.arm(0, 1), true);
    Dues.grammar(house, "a=");
    due("arm with the one that was", house.arm(0, 1), true);
  }

  private static void past(MatchHouse house) {
    Dues.grammar(house, "a={'x'}{[yz]}b?;b=[ab]+;");
    Dues.subject(house, "xyabq");
    house.match(0, 50);
    Dues.code(house, "43 01 c8 eb fb");
    house.put(1, 77);
    house.put(8, -1);
    house.store(100, 0x01020304);
    house.store(40000, -5);
    house.begin(1);
    house.run(1);
    house.feed(1, 2, 3, 4, 5);
  }

  private static void refusedArmChangesNothing() {
    int[][] calls = {{-1, 9}, {6, 9}, {0, 0}, {0, -1}, {0, 1001}, {MIN, MIN}, {MAX, MAX}, {6, 1001}};
    for (int[] call : calls) {
      Shown.unchanged(DUES, "arm(" + call[0] + ", " + call[1] + ")", EdgesOfProgramTest::past,
          house -> house.arm(call[0], call[1]));
    }
    Shown.unchanged(DUES, "arm without GRAMMAR", house -> {
      house.put(0, 3);
      house.store(0, 5);
      Dues.code(house, "43");
    }, house -> house.arm(0, 1));
  }

  private static void refusedMatchChangesNothing() {
    int[][] calls = {{-1, 9}, {6, 9}, {0, 0}, {0, -1}, {0, 1001}, {MIN, MIN}, {MAX, MAX}, {6, 1001}};
    for (int[] call : calls) {
      Shown.unchanged(DUES, "match(" + call[0] + ", " + call[1] + ")", EdgesOfProgramTest::past,
          house -> house.match(call[0], call[1]));
    }
    Shown.unchanged(DUES, "match without GRAMMAR", house -> {
      house.put(0, 3);
      house.store(0, 5);
      Dues.code(house, "43");
    }, house -> house.match(0, 1));
  }

  /** "DATA is 0, but the SUBJECT .., the SETS .., and the SUBJECT's length": each at its edges. */
  private static void armedMemory() {
    MatchHouse house = with("a=" + sets(0, 128) + ";", many("\u00ff", 4000));
    for (int at : new int[] {0, 4000, 8188, 8196, 12288, 28672, 40000, 65532}) {
      house.store(at, 0x55555555);
    }
    for (int what = 0; what < 9; what++) {
      house.put(what, -1);
    }
    house.begin(77);
    due("arm", house.arm(4000, 1000), true);
    int[] dues = {0, 0, 0, 4000, 0, 1000, 12288, 28672, 0, 65536, 0};
    for (int what = 0; what < 11; what++) {
      due("armed: get(" + what + ")", house.get(what), dues[what]);
    }
    due("the SUBJECT's first word", house.load(0), -1);
    due("the SUBJECT's last word", house.load(3996), -1);
    due("behind the SUBJECT", house.load(4000), 0);
    due("ahead of the SETS", house.load(4092), 0);
    due("SET 0, word 0", house.load(4096), 1);
    due("SET 0, word 7", house.load(4096 + 28), 1 << 31);
    due("SET 31, word 0", house.load(4096 + 32 * 31), 1 << 31);
    due("SET 32, word 1", house.load(4096 + 32 * 32 + 4), 1);
    due("SET 127, word 3", house.load(4096 + 32 * 127 + 12), 1 << 31);
    due("SET 127, word 7", house.load(8188), 1 << 31);
    due("the length", house.load(8192), 4000);
    for (int at : new int[] {8196, 12288, 28672, 40000, 65532}) {
      due("0 at " + at, house.load(at), 0);
    }
    due("a lesser SUBJECT", Dues.subject(house, "x"), 1);
    due("arm again", house.arm(1, 1), true);
    due("its word", house.load(0), 'x');
    due("its next word", house.load(4), 0);
    due("its length", house.load(8192), 1);
    Dues.grammar(house, "a=[ab];");
    house.arm(0, 1);
    due("SET 0 of it", house.load(4096 + 12), 6);
    due("no SET 1 of it", house.load(4096 + 32), 0);
    due("no SET 127 of it", house.load(8188), 0);
  }

  private static void bytes(String text, int place, String due) {
    MatchHouse house = with(text);
    byte[] all = Dues.hex(due);
    for (int i = 0; i < all.length; i++) {
      due("image(" + (place + i) + ") of " + text, house.image(place + i), all[i] & 255);
    }
  }

  /** "SHORT at first; .. all that do not reach become NEAR": 127 reaches, 128 does not. */
  private static void shortAndNear() {
    // jmp FAIL at 109 reaches 238: 127 from 111.
    bytes("a=&(.){};", 107, "eb02 eb7f 89f8");
    due("FAIL's place", with("a=&(.){};").image(238), 0x81);
    // js OVER at 190 would be 128 from 192: NEAR, behind two nops.
    bytes("a={.?};", 189, "4d 9090 0f887a000000 81ee10000000");
    due("OVER's place", with("a={.?};").image(320), 0xB8);
    // jae 1 at 312 goes back to 186: -128 from 314.
    bytes("a='y''y'([yz].?)*;", 306, "3b1d00200200 7380 3b1d00200200");
    due("the place that it goes to", with("a='y''y'([yz].?)*;").program(4, 3), 186);
    // jne 1 at 358 would be -129 from 360: NEAR, -133 from 364.
    bytes("a=('x''y'?)+.?;", 352, "81f879000000 0f857bffffff 3b1d00200200");
    due("the place that it goes to", with("a=('x''y'?)+.?;").program(5, 3), 231);
    MatchHouse house = with("a='y''y'([yz].?)*;", "yyyazz");
    due("match over them", house.match(0, 1), 6);
    house = with("a=('x''y'?)+.?;", "xyxxyq");
    due("match over the others", house.match(0, 1), 6);
  }

  /** "Again, until all reach": what has become NEAR stays so, though nops have made room. */
  private static void jumpsBecomeNearOnceOnly() {
    bytes("a=!(b)+.?.;b='z';", 149, "0f837f000000");
    bytes("a=(..?{})+;", 230, "0f837f000000");
  }

  private static final String[][] EXACT = {
      {"a=[yz].?;", "180", "81e0f0ff00008b8800000200"},
      {"a=..?{};", "174", "81e0f8ff0000898800000200899804000200"},
      {"a={}.'y';", "211", "81e0ffff00000fb68000000200"},
      {"a={}...?;", "218", "3b1d00200200"},
      {"a={}'y';", "223", "43"},
      {"a=[yz];", "159", "45"},
      {"a=.{};", "191", "4d"},
      {"a=[yz]?;", "158", "735a"},
      {"a=..?&'y';", "158", "752e"},
      {"a=.;", "154", "81fe00300000"},
      {"a=!'yy';", "254", "89d8"},
      {"a=..{};", "123", "b900000000"},
      {"a={}[yz]{};", "221", "c1e805"},
      {"a=.?.'y'&'y'{};", "219", "e97a000000"},
      {"a='y''q'*;", "190", "ebc9"},
      {"a=..?.!'yy';", "154", "0f83c0000000"},
      {"a=&b;b=;", "264", "81e0f0ff00008b98040002008bb8080002008ba80c000200"},
      {"a=(.+[])+;", "474", "8d8d01000000"},
  };
  // Where it would begin, and where it does.
  private static final String[][] BEYOND = {
      {"a=.;", "117", "128", "81e0f0ff00008b8800000200"},
      {"a=..b.;b=;", "133", "160", "81e0f0ff0000898800000200c78004000200ffffffff89a80c000200"},
      {"a=..?.'y'?;", "148", "160", "81e0ffff00000fb68000000200"},
      {"a='q'*.;", "155", "160", "3b1d00200200"},
      {"a=[yz].;", "159", "160", "732c"},
      {"a='y'?;", "159", "160", "752c"},
      {"a='q'*;", "155", "160", "81ee10000000"},
      {"a=.{};", "159", "160", "89f8"},
      {"a=[yz]?{};", "186", "192", "8d048500100000"},
      {"a='y'.{};", "156", "160", "b900000000"},
      {"a={}!'y'[yz]?;", "254", "256", "c1e805"},
      {"a=b..&'y'b;b=;", "284", "288", "e97b000000"},
      {"a={}!'y';", "223", "224", "eb2c"},
      {"a=.?!'yy';", "155", "160", "0f859a000000"},
      {"a=&(([]*.))&.?;", "265", "288", "81e0f0ff00008b98040002008bb8080002008ba80c000200"},
      {"a=.{.}+;", "239", "256", "81e0f8ff0000898800000200899804000200"},
      {"a=(.![])*;", "251", "256", "8d8d01000000"},
  };

  // GROUPS whose first instruction alone would have had room: CALL, RET, FAIL, GO, CHOICE, NEXT,
  // PARTIAL, BACKCOMMIT, OPEN, IN.
  private static final String[][] GROUPS = {
      {"a=.;", "7", "32", "81e0f0ff0000898800000200c78004000200ffffffff89a80c000200"},
      {"a=.;", "117", "128", "81e0f0ff00008b8800000200"},
      {"a=.;", "170", "192", "81e0f0ff00008b88000002008b98040002008b90080002008ba80c000200"},
      {"a='x';", "152", "160", "81e1e0ff000081c100000100ffe1"},
      {"a='xy'?;", "147", "160", "81e0f0ff000089880000020089980400020089b80800020089a80c000200"},
      {"a='xy'?;", "215", "224", "81e0ffff00000fb68000000200"},
      {"a='xy'*;", "300", "320", "81e0f0ff000089980400020089b80800020089880c000200"},
      {"a=&(([]*.))&.?;", "265", "288", "81e0f0ff00008b98040002008bb8080002008ba80c000200"},
      {"a={};", "148", "160", "81e0f8ff0000898800000200899804000200"},
      {"a=(.+[])+;", "153", "160", "81e0fcff00008b8000000200"},
  };

  /** "(of a GROUP once, ahead of all)" */
  private static void groupsHaveTheirNopsOnce() {
    for (String[] row : GROUPS) {
      int from = Integer.parseInt(row[1]);
      due("the first one has room in " + row[0], from % 32 + 6 <= 32, true);
      due("all have not in " + row[0], from % 32 + row[3].length() / 2 > 32, true);
      nopsThen(row);
    }
  }

  private static void nopsThen(String[] row) {
    int from = Integer.parseInt(row[1]);
    int place = Integer.parseInt(row[2]);
    MatchHouse house = with(row[0]);
    due("no nop ahead in " + row[0], house.image(from - 1) == 0x90, false);
    for (int i = from; i < place; i++) {
      due("nop at " + i + " of " + row[0], house.image(i), 0x90);
    }
    bytes(row[0], place, row[3]);
  }

  /** "It, and each instruction, is in one BUNDLE: where it would go beyond it, nops are ahead" */
  private static void bundlesExactAndOneBeyond() {
    for (String[] row : EXACT) {
      int place = Integer.parseInt(row[1]);
      int end = place + row[2].length() / 2;
      due("the row's end of " + row[0], end % 32, 0);
      bytes(row[0], place, row[2]);
      MatchHouse house = with(row[0]);
      due("no nop ahead in " + row[0], house.image(place - 1) == 0x90, false);
      due("no nop behind in " + row[0], house.image(end) == 0x90, false);
    }
    for (String[] row : BEYOND) {
      int from = Integer.parseInt(row[1]);
      due("one beyond in " + row[0], from % 32 + row[3].length() / 2, 33);
      nopsThen(row);
    }
    // "The place of an instruction .. is that of the first byte behind all such nops"
    due("place of RET", with("a='q'*;").program(3, 3), 160);
    due("place of ANY", with("a='q'*.;").program(3, 3), 160);
    due("place of CLOSE", with("a=.{};").program(4, 3), 160);
    bytes("a='q'*.;", 105, "7335");
    due("the SPAN's 2: is the next one's place", 107 + 0x35, 160);
  }

  /** "An instruction that is a CHOICE's target, or stands right behind a CALL, begins a BUNDLE" */
  private static void choiceTargetsAndCallsBeginBundles() {
    String[] texts = {"a='xy'?.;", "a=('xy'/'xz')'q';", "a='xy'*.;", "a=!'xy'.;", "a=&'xy'.;",
        "a=b.b?b*;b='x'/'y'c;c=.;", "a=;", "a={b}{b};b=;", "a=.?.?.;"};
    for (String text : texts) {
      MatchHouse house = with(text);
      for (int i = 0; i < house.count(1); i++) {
        int kind = house.program(i, 0);
        int behind = house.program(i + 1, 3);
        if (kind == CHOICE) {
          int place = house.program(house.program(i, 2), 3);
          due("the CHOICE's target at " + i + " of " + text, place % 32, 0);
        }
        if (kind == CALL) {
          due("behind the CALL at " + i + " of " + text, behind % 32, 0);
        }
      }
    }
    MatchHouse house = with("a=.?.?.;");
    due("a TEST's target does not: ANY", house.program(3, 3), 107);
    due("a TEST's target does not: TESTANY", house.program(4, 3), 116);
    // A target that begins one by itself has no nops ahead.
    house = with("a=..?!'yy';");
    for (int i = 0; i < house.count(1); i++) {
      due("places go on", i == 0 || house.program(i, 3) > house.program(i - 1, 3), true);
    }
    due("OVER begins one", house.image(house.count(3) - 6), 0xB8);
  }

  /** "More than 61440 bytes: too large": 61414 are the most that can be, then 61446. */
  private static void imageOfSixtyOneThousand() {
    String full = "a=" + many("b ", 636);
    MatchHouse house = with(full + "'x';b='x';", many("x", 637));
    due("count(3)", house.count(3), 61414);
    due("image(0)", house.image(0), 0x89);
    due("image(61413)", house.image(61413), 244);
    due("image(61414)", house.image(61414), -1);
    due("image(61439)", house.image(61439), -1);
    due("match", house.match(0, 2), 637);
    due("count(7)", house.count(7), 61414);
    due("check(0)", house.check(0), 0);
    due("begin(61413)", house.begin(61413), true);
    due("the last byte is HLT", house.run(1), 0);
    due("its STOP", house.get(10), 1);
    tooLarge(full + "'xx';b='x';");
    tooLarge("a=" + many("b ", 637) + "'x';b='x';");
    tooLarge("a=" + many("b ", 1900) + ";b='x';");
    tooLarge("a=" + many("{}", 990) + ";");
  }

  /** "NONE when there is none such, or for another what": of program(). */
  private static void programOfNone() {
    MatchHouse house = new MatchHouse();
    for (int what = 0; what < 4; what++) {
      due("no GRAMMAR: program(0, " + what + ")", house.program(0, what), -1);
    }
    Dues.grammar(house, "a={'x'};");
    int[][] dues = {{14, 0, 2, 0}, {18, 0, -1, 96}, {16, 0, -1, 99}, {0, 120, -1, 141},
        {17, 0, -1, 183}, {15, 0, -1, 235}};
    for (int i = 0; i < 6; i++) {
      for (int what = 0; what < 3; what++) {
        due("program(" + i + ", " + what + ")", house.program(i, what), dues[i][what]);
      }
      for (int what : new int[] {-1, 4, 5, MIN, MAX}) {
        due("program(" + i + ", " + what + ")", house.program(i, what), -1);
      }
    }
    due("place of CALL", house.program(0, 3), 0);
    due("place of END", house.program(1, 3), 96);
    for (int i : new int[] {-1, 6, 7, 2000, 2001, 2002, MIN, MAX}) {
      for (int what = 0; what < 4; what++) {
        due("program(" + i + ", " + what + ")", house.program(i, what), -1);
      }
    }
    Dues.grammar(house, "a=;");
    due("an instruction of the GRAMMAR that was", house.program(3, 0), -1);
    due("the last one", house.program(2, 0), RET);
    // "its byte, SET or { (0 for others)"; "its target (NONE without one)": of all kinds.
    house = with("a={b}.[xy][pq]*'z'?[xy]?.?'pq'?('pq')*&'pq'!'pq'(b 'r'/'s')!'t'b;b=[pq].?'q';");
    boolean[] seen = new boolean[19];
    for (int i = 0; i < house.count(1); i++) {
      int kind = house.program(i, 0);
      seen[kind] = true;
      boolean hasArgument = kind < ANY || kind == SPAN || kind == TESTCHAR || kind == TESTSET
          || kind == 16 || kind == 17;
      boolean hasTarget = kind >= TESTCHAR && kind < 12 || kind == CALL;
      if (!hasArgument) {
        due("no byte, SET or { of " + i, house.program(i, 1), 0);
      }
      int target = house.program(i, 2);
      due("a target of " + i, hasTarget ? target >= 2 : target == -1, true);
      due("a target within " + i, target < house.count(1), true);
    }
    for (int kind = 0; kind < 19; kind++) {
      due("kind " + kind + " is there", seen[kind], true);
    }
  }

  /** "Word w (0 .. 7) of SET k; 0 when there is none such." */
  private static void setOfNone() {
    MatchHouse house = new MatchHouse();
    due("no GRAMMAR: set(0, 0)", house.set(0, 0), 0);
    Dues.grammar(house, "a=[\\x00\\xff][^];b=[^\\x00];");
    due("set(0, 0)", house.set(0, 0), 1);
    due("set(0, 7)", house.set(0, 7), MIN);
    due("set(1, 0)", house.set(1, 0), -2);
    for (int w = 1; w < 8; w++) {
      due("set(1, " + w + ")", house.set(1, w), -1);
    }
    for (int k : new int[] {-1, 2, 127, 128, 1 << 29, MIN, MAX}) {
      for (int w = 0; w < 8; w++) {
        due("set(" + k + ", " + w + ")", house.set(k, w), 0);
      }
    }
    for (int w : new int[] {-1, 8, 9, -8, MIN, MAX}) {
      due("set(0, " + w + ")", house.set(0, w), 0);
      due("set(1, " + w + ")", house.set(1, w), 0);
    }
  }

  /** A PROGRAM, its SETS and its IMAGE have nothing of those ahead of them. */
  private static void programBehindOthers() {
    String[] texts = {"a=.[xy].;", "a={[ab]}b?[q]+/b b;b='xy'/[cd]*;", "a=;", "a='x'.'y'.'z'.;",
        "a=[^a]^9;b=[b]?;c=[bc]?;", "a=&b !b b*b+;b={.}'z';"};
    for (String text : texts) {
      Shown.same(DUES, "behind others: " + text, house -> Dues.grammar(house, text), house -> {
        for (String other : texts) {
          Dues.grammar(house, other);
        }
        Dues.grammar(house, text);
      }, true);
      Shown.same(DUES, "behind itself: " + text, house -> Dues.grammar(house, text), house -> {
        for (int k = 0; k < 4; k++) {
          Dues.grammar(house, text);
          Dues.grammar(house, k % 2 == 0 ? "a=" : "a=('x'^9^9^9)^9;");
        }
        Dues.grammar(house, text);
      }, true);
    }
  }

  /** "Byte i of the IMAGE of the PROGRAM; NONE when there is none." */
  private static void imageOfNone() {
    MatchHouse house = new MatchHouse();
    due("no GRAMMAR: image(0)", house.image(0), -1);
    Dues.code(house, "43");
    due("the PROCESSOR's IMAGE is another", house.image(0), -1);
    Dues.grammar(house, "a=.;");
    int size = house.count(3);
    due("count(3)", size, 262);
    due("image(0)", house.image(0), 0x89);
    due("image(last)", house.image(size - 1), 244);
    for (int i : new int[] {-1, size, size + 1, 61439, 61440, MIN, MAX}) {
      due("image(" + i + ")", house.image(i), -1);
    }
    Dues.grammar(house, "a=..............;");
    due("a longer one has that byte", house.image(size) >= 0, true);
    Dues.grammar(house, "a=.;");
    due("a shorter one has not", house.image(size), -1);
  }

  /** "How many there are .. (0 to 4 are 0 without one) .. NONE for another what." */
  private static void countsAndOtherWhats() {
    MatchHouse house = new MatchHouse();
    Dues.grammar(house, "a=");
    for (int what = 0; what < 8; what++) {
      due("behind a FAULT: count(" + what + ")", house.count(what), 0);
    }
    Dues.grammar(house, "a={[xy]}!{'z'};b=;");
    int[] dues = {2, 9, 1, -1, 2, 0, 0, 0};
    for (int what = 0; what < 8; what++) {
      if (what != 3) {
        due("count(" + what + ")", house.count(what), dues[what]);
      }
    }
    due("count(3)", house.count(3) > 200, true);
    for (int what : new int[] {-1, 8, 9, MIN, MAX}) {
      due("count(" + what + ")", house.count(what), -1);
    }
    house = with("a=" + many("{", 40) + many("}", 40) + ";");
    due("40 {", house.count(4), 40);
    house = with("a=" + many("!{'x'}", 500) + ";");
    due("500 { that are not written", house.count(4), 500);
    due("two instructions of each", house.count(1), 1003);
    due("1332 {", with("a=!('x'(" + many("{}", 1332) + ")?);").count(4), 1332);
  }
}
