/** Each promise by hand: ordinary inputs, the edges that the document names, and wrong inputs. */
public final class PromiseTest {
  private static final Dues DUES = new Dues("PromiseTest");
  private static final int[] ODD = {-1, -2, 12, 1000, Integer.MAX_VALUE, Integer.MIN_VALUE};

  public static void main(String[] args) {
    newObject();
    feedAndEnd();
    grammarAndFault();
    faultsInOrder();
    tooLarge();
    counts();
    rules();
    programs();
    sets();
    images();
    subjects();
    arms();
    matches();
    longMatches();
    peaksAndEvents();
    places();
    beginsAndRuns();
    getsAndPuts();
    storesAndLoads();
    DUES.finish();
  }

  private static void due(String what, long got, long want) {
    DUES.due(what, got, want);
  }

  private static void due(String what, boolean got, boolean want) {
    DUES.due(what, got, want);
  }

  private static MatchHouse with(String grammar) {
    MatchHouse house = new MatchHouse();
    due("grammar " + grammar, Dues.grammar(house, grammar) > 0, true);
    return house;
  }

  private static void newObject() {
    MatchHouse house = new MatchHouse();
    for (int what = 0; what < 8; what++) {
      due("new: count(" + what + ")", house.count(what), 0);
    }
    due("new: fault(0)", house.fault(0), -1);
    due("new: fault(1)", house.fault(1), -1);
    due("new: fault(2)", house.fault(2), -1);
    due("new: rule", house.rule(0, 0), -1);
    due("new: program", house.program(0, 0), -1);
    due("new: set", house.set(0, 0), 0);
    due("new: image", house.image(0), -1);
    due("new: arm", house.arm(0, 1), false);
    due("new: match", house.match(0, 1), -1);
    due("new: peak", house.peak(), 0);
    due("new: event", house.event(0, 0), -1);
    due("new: check(0)", house.check(0), 0);
    due("new: check(1)", house.check(1), -1);
    for (int what = 0; what < 11; what++) {
      due("new: get(" + what + ")", house.get(what), what == 9 ? 65536 : 0);
    }
    for (int at = 0; at <= 65532; at += 4) {
      due("new: load", house.load(at), 0);
    }
    due("new: run(5)", house.run(5), 0);
    due("new: stop behind run(5)", house.get(10), 1);
    due("NONE", MatchHouse.NONE, -1);
  }

  private static void feedAndEnd() {
    MatchHouse house = new MatchHouse();
    due("feed", house.feed(0x41424344, 0x80FF0001, 3, 4, 5), 20);
    due("place of the tape", house.place(), 20);
    due("count(6) behind place", house.count(6), 0);
    house.feed(0xB8010203, 0x04F40000, 0, 0, 0);
    house.place();
    due("run", house.run(2), 1);
    due("eax: the highest byte came first", house.get(0), 0x04030201);
    for (int k = 1; k <= 200; k++) {
      due("feed " + k, house.feed(k, k, k, k, k), 20 * k);
    }
    due("feed on 4000", house.feed(1, 2, 3, 4, 5), -1);
    due("count(6)", house.count(6), 4000);
    due("end(4001)", house.end(4001), -1);
    due("end(-1)", house.end(-1), -1);
    due("end(4000)", house.end(4000), 4000);
    due("end(3981)", house.end(3981), 3981);
    due("feed on 3981", house.feed(1, 2, 3, 4, 5), -1);
    due("count(6) of 3981", house.count(6), 3981);
    due("end(3980)", house.end(3980), 3980);
    due("feed on 3980", house.feed(1, 2, 3, 4, 5), 4000);
    due("end(7)", house.end(7), 7);
    due("end(8)", house.end(8), -1);
    due("end(0)", house.end(0), 0);
    due("feed on 0", house.feed(1, 2, 3, 4, 5), 20);
    due("end min", house.end(Integer.MIN_VALUE), -1);
    due("end max", house.end(Integer.MAX_VALUE), -1);
  }

  private static void grammarAndFault() {
    MatchHouse house = with("a=b 'x';b='y';");
    due("count(0)", house.count(0), 2);
    due("count(6) behind grammar", house.count(6), 0);
    due("fault(0)", house.fault(0), 0);
    due("fault(1)", house.fault(1), -1);
    for (int what : ODD) {
      due("fault(odd)", house.fault(what), -1);
    }
    due("fault(2)", house.fault(2), -1);
    int instructions = house.count(1);
    int size = house.count(3);
    int first = house.image(7);
    due("a malformed one", Dues.grammar(house, "a='x"), -1);
    due("fault(0) of it", house.fault(0), 1);
    due("fault(1) of it", house.fault(1), 4);
    due("count(6) behind a fault", house.count(6), 0);
    due("the grammar that was: count(0)", house.count(0), 2);
    due("the grammar that was: count(1)", house.count(1), instructions);
    due("the grammar that was: count(3)", house.count(3), size);
    due("the grammar that was: image", house.image(7), first);
    due("one too large", Dues.grammar(house, "a=('x'^9^9^9)^9;"), -1);
    due("fault(0) of too large", house.fault(0), 5);
    due("fault(1) of too large", house.fault(1), 16);
    due("the grammar that was: count(1) again", house.count(1), instructions);
    due("the grammar that was: count(3) again", house.count(3), size);
    Dues.subject(house, "yx");
    due("the grammar that was: match", house.match(0, 9), 2);
    due("an empty tape", house.grammar(), -1);
    due("fault(1) of an empty tape", house.fault(1), 0);
    due("a good one", Dues.grammar(house, "z=;"), 1);
    due("fault(0) of a good one", house.fault(0), 0);
    due("fault(1) of a good one", house.fault(1), -1);
  }

  private static void fault(String text, int kind, int place) {
    MatchHouse house = new MatchHouse();
    due("grammar " + text, Dues.grammar(house, text), -1);
    due("kind of " + text, house.fault(0), kind);
    due("place of " + text, house.fault(1), place);
    due("count(0) behind " + text, house.count(0), 0);
  }

  private static void faultsInOrder() {
    fault("a=b;b=a;c=", 1, 10);
    fault("a=a;b=c;", 2, 6);
    fault("a=''*;a='x';", 2, 6);
    fault("a=b;a=;", 2, 2);
    fault("a=;a=b;", 2, 3);
    fault("a=;b=;b=;a=;", 2, 6);
    fault("a='x';b=;aa=A;", 2, 12);
    fault("a=b;b=c;c=b;", 3, 4);
    fault("x='q';a='' b;b=!'x' c?;c=&(a);", 3, 6);
    fault("a='x'?a;", 3, 0);
    fault("a='x'*{a};", 3, 0);
    fault("a=('x'/)a;", 3, 0);
    fault("a=!a;", 3, 0);
    fault("a='x'^2/'y'/a^3;", 3, 0);
    fault("a=b a;b=('x'?)^3;", 3, 0);
    fault("a=b a;b='x'?*;", 3, 0);
    fault("a=b*;b='x'?;", 4, 3);
    fault("a=('x'/(''+)*)+;", 4, 10);
    fault("a=(&'x')+;", 4, 8);
    fault("a=(b c)*;b='x'?;c=!'y';", 4, 7);
    fault("a={''}*;", 4, 6);
    fault("a='x'**;", 4, 6);
    fault("a='x'+?+;", 4, 7);
    with("a='x' a/;");
    with("a='x'+?;b=('x'/'y')*;");
    with("a=b*;b='x' b?;");
  }

  private static String rows(String one, int many) {
    return one.repeat(many);
  }

  private static void tooLarge() {
    // CALL, END, RET, and so many more: 2000 are not too many.
    MatchHouse house = new MatchHouse();
    String nearly = "a=!.!.!. !.^9 .^9^9^9 .^9^9^9 .^9^9 .^9^9 .^9^9 .^9^9 .^9^9 .^9^9";
    due("a grammar of 2000", Dues.grammar(house, nearly + ".^9 .^9 . . . . . . . .;") > 0, true);
    int short2000 = 2000 - house.count(1);
    due("room for more", short2000 >= 0, true);
    StringBuilder more = new StringBuilder(nearly + ".^9 .^9 . . . . . . . .");
    for (int k = 0; k < short2000; k++) {
      more.append(" .");
    }
    due("a grammar of exactly 2000", Dues.grammar(house, more + ";") > 0, true);
    due("count(1)", house.count(1), 2000);
    due("a grammar of 2001", Dues.grammar(house, more + ".;"), -1);
    due("kind", house.fault(0), 5);
    due("place", house.fault(1), more.length() + 2);
    // Texts that are as full of parts as can be are well formed.
    String[] dense = {rows(".", 3997), rows("/", 3997), "'" + rows("a", 3995) + "'",
        rows("{}", 1998), rows("(/)", 1332), rows("!.", 1998), rows("(./.?)", 666)};
    for (String text : dense) {
      due("a dense text", Dues.grammar(house, "a=" + text + ";"), -1);
      due("kind of a dense text " + text.substring(0, 6), house.fault(0), 5);
      due("place of a dense text", house.fault(1), text.length() + 3);
    }
    due("nothing, often", Dues.grammar(house, "a=(" + rows("()", 1900) + ".)^9^9;"), 1);
    due("count(1) of nothing, often", house.count(1), 84);
    // 128 sets, and 129; equal ones are one.
    StringBuilder sets = new StringBuilder("a=");
    for (int k = 0; k < 128; k++) {
      sets.append(String.format("[\\x%02x\\xff]", k));
    }
    due("128 sets", Dues.grammar(house, sets + "[\\xff\\x00];"), 1);
    due("count(2) of 128", house.count(2), 128);
    due("129 sets", Dues.grammar(house, sets + "[\\xff\\x80];"), -1);
    due("kind of 129", house.fault(0), 5);
    due("count(2) stays", house.count(2), 128);
    // An image ends with OVER, six bytes behind whole bundles: 61414 is the most that goes.
    String full = "a=" + rows("b ", 636);
    due("an image of 61414", Dues.grammar(house, full + "'x';b='x';"), 2);
    due("count(3) of it", house.count(3), 61414);
    due("image(61413)", house.image(61413), 244);
    due("image(61414)", house.image(61414), -1);
    due("an image of a bundle more", Dues.grammar(house, full + "'xx';b='x';"), -1);
    due("kind of a bundle more", house.fault(0), 5);
    due("count(3) stays", house.count(3), 61414);
    // Many calls, three bundles each.
    int calls = 600;
    String text = "";
    for (int many = 600; many < 700; many++) {
      text = "a=" + rows("b ", many) + ";b='x';";
      if (Dues.grammar(house, text) < 0) {
        due("kind of a long image", house.fault(0), 5);
        due("place of a long image", house.fault(1), text.length());
        break;
      }
      calls = many;
      due("a long image", house.count(3) <= 61440, true);
    }
    due("a long image was too large in the end", calls < 699, true);
    due("the image is nearly full", house.count(3) > 61440 - 200, true);
    Dues.subject(house, rows("x", calls));
    due("a long image runs", house.match(0, 5), calls);
    due("a long image passes", house.check(0), 0);
  }

  private static void counts() {
    MatchHouse house = with("a={'x'}/{{'y'}};b=[ab][cd];");
    due("count(0)", house.count(0), 2);
    due("count(2)", house.count(2), 2);
    due("count(4)", house.count(4), 3);
    due("count(5)", house.count(5), 0);
    Dues.subject(house, "hello");
    due("count(5) of hello", house.count(5), 5);
    house.feed(1, 2, 3, 4, 5);
    due("count(6)", house.count(6), 20);
    due("count(7)", house.count(7), 0);
    house.arm(0, 5);
    due("count(7), armed", house.count(7), house.count(3));
    for (int what : ODD) {
      due("count(" + what + ")", house.count(what), -1);
    }
    due("count(8)", house.count(8), -1);
  }

  private static void facts(String grammar, int nullable, int sure, int nofail) {
    MatchHouse house = with("r=" + grammar + ";n='x'?;s='x';");
    due("NULLABLE of " + grammar, house.rule(0, 0), nullable);
    due("SURE of " + grammar, house.rule(0, 1), sure);
    due("NOFAIL of " + grammar, house.rule(0, 2), nofail);
  }

  private static void rules() {
    facts("", 1, 0, 1);
    facts("'x'", 0, 1, 0);
    facts("''", 1, 0, 1);
    facts("'xy'", 0, 0, 0);
    facts(".", 0, 1, 0);
    facts("[]", 0, 1, 0);
    facts("'x' 'y'?", 0, 1, 0);
    facts("'' 'x'", 0, 0, 0);
    facts("'x'? 'y'", 0, 0, 0);
    facts("'x'/'y'", 0, 1, 0);
    facts("'x'/'yy'", 0, 0, 0);
    facts("'xx'/n", 1, 0, 1);
    facts("'x'/s 'y'*", 0, 1, 0);
    facts("&'x'", 1, 0, 0);
    facts("!'x'", 1, 0, 0);
    facts("'xx'*", 1, 0, 1);
    facts("'x'+", 0, 1, 0);
    facts("'xx'+", 0, 0, 0);
    facts("{'x'}", 0, 1, 0);
    facts("{n}", 1, 0, 1);
    facts("n n", 1, 0, 1);
    facts("n s", 0, 0, 0);
    facts("s n", 0, 1, 0);
    facts("s^1", 0, 1, 0);
    facts("s^2", 0, 0, 0);
    facts("n^3", 1, 0, 1);
    facts("s r/s", 0, 0, 0);
    facts("s r/", 1, 0, 1);
    facts("s (r/n)", 0, 1, 0);
    MatchHouse house = with("r='ab' [\\xff\\x00]/!'q' [^\\x20-\\xff] 'z';q='a'i;");
    due("start of r", house.rule(0, 3), 2);
    due("FIRST word 0", house.rule(0, 4), -1);
    due("FIRST word 3", house.rule(0, 7), 2);
    due("FIRST word 7", house.rule(0, 11), 0);
    due("start of q", house.rule(1, 3), house.count(1) - 2);
    due("q word 2", house.rule(1, 6), 2);
    due("q word 3", house.rule(1, 7), 2);
    due("no rule 2", house.rule(2, 0), -1);
    for (int odd : ODD) {
      due("rule(odd, 0)", house.rule(odd, 0), -1);
      due("rule(0, odd)", house.rule(0, odd), -1);
    }
  }

  private static void listing(String grammar, String... due) {
    MatchHouse house = with(grammar);
    String[] names = {"CHAR", "SET", "ANY", "SPAN", "TESTCHAR", "TESTSET", "TESTANY", "JUMP",
        "CHOICE", "COMMIT", "PARTIAL", "BACKCOMMIT", "FAILTWICE", "FAIL", "CALL", "RET", "OPEN",
        "CLOSE", "END"};
    due("count(1) of " + grammar, house.count(1), due.length);
    for (int i = 0; i < due.length; i++) {
      String is = names[house.program(i, 0)] + " " + house.program(i, 1) + " " + house.program(i, 2);
      due(grammar + ", instruction " + i + ": " + is + ", due " + due[i], is.equals(due[i]), true);
    }
  }

  private static void programs() {
    listing("a='x';", "CALL 0 2", "END 0 -1", "CHAR 120 -1", "RET 0 -1");
    listing("a=.[ab]^2[ab]*;", "CALL 0 2", "END 0 -1", "ANY 0 -1", "SET 0 -1", "SET 0 -1",
        "SPAN 0 -1", "RET 0 -1");
    listing("a='x'*;", "CALL 0 2", "END 0 -1", "SPAN 0 -1", "RET 0 -1");
    listing("a='x'/'yz';", "CALL 0 2", "END 0 -1", "TESTCHAR 120 5", "CHAR 120 -1", "RET 0 -1",
        "CHAR 121 -1", "CHAR 122 -1", "RET 0 -1");
    listing("a='xy'/'xz';", "CALL 0 2", "END 0 -1", "TESTCHAR 120 7", "CHOICE 0 7", "CHAR 120 -1",
        "CHAR 121 -1", "COMMIT 0 9", "CHAR 120 -1", "CHAR 122 -1", "RET 0 -1");
    listing("a=('x'?/.)'z';", "CALL 0 2", "END 0 -1", "CHOICE 0 6", "TESTCHAR 120 5",
        "CHAR 120 -1", "COMMIT 0 7", "ANY 0 -1", "CHAR 122 -1", "RET 0 -1");
    listing("a='xy'?;", "CALL 0 2", "END 0 -1", "TESTCHAR 120 7", "CHOICE 0 7", "CHAR 120 -1",
        "CHAR 121 -1", "COMMIT 0 7", "RET 0 -1");
    listing("a=.?'z'??;", "CALL 0 2", "END 0 -1", "TESTANY 0 4", "ANY 0 -1", "CHOICE 0 8",
        "TESTCHAR 122 7", "CHAR 122 -1", "COMMIT 0 8", "RET 0 -1");
    listing("a=('x''y'?)*;", "CALL 0 2", "END 0 -1", "TESTCHAR 120 7", "CHAR 120 -1",
        "TESTCHAR 121 2", "CHAR 121 -1", "JUMP 0 2", "RET 0 -1");
    listing("a=('xy')+;", "CALL 0 2", "END 0 -1", "CHAR 120 -1", "CHAR 121 -1", "TESTCHAR 120 9",
        "CHOICE 0 9", "CHAR 120 -1", "CHAR 121 -1", "PARTIAL 0 6", "RET 0 -1");
    listing("a=!'x'!'xy';", "CALL 0 2", "END 0 -1", "TESTCHAR 120 4", "FAIL 0 -1",
        "TESTCHAR 120 9", "CHOICE 0 9", "CHAR 120 -1", "CHAR 121 -1", "FAILTWICE 0 -1", "RET 0 -1");
    listing("a=&[xy]&'xy';", "CALL 0 2", "END 0 -1", "TESTSET 0 4", "JUMP 0 5", "FAIL 0 -1",
        "TESTCHAR 120 10", "CHOICE 0 10", "CHAR 120 -1", "CHAR 121 -1", "BACKCOMMIT 0 11",
        "FAIL 0 -1", "RET 0 -1");
    listing("a={b}{'x'};b=;", "CALL 0 2", "END 0 -1", "OPEN 0 -1", "CALL 0 9", "CLOSE 0 -1",
        "OPEN 1 -1", "CHAR 120 -1", "CLOSE 1 -1", "RET 0 -1", "RET 0 -1");
    // A call right ahead of a RET is a jump; a jump to a jump goes on to its goal; one to RET is it.
    listing("a='x' b;b=c;c='y';", "CALL 0 2", "END 0 -1", "CHAR 120 -1", "JUMP 0 7", "RET 0 -1",
        "JUMP 0 7", "RET 0 -1", "CHAR 121 -1", "RET 0 -1");
    listing("a=b;b='x';", "CALL 0 4", "END 0 -1", "JUMP 0 4", "RET 0 -1", "CHAR 120 -1", "RET 0 -1");
    listing("a='x' b/'y';b=;", "CALL 0 2", "END 0 -1", "TESTCHAR 120 6", "CHAR 120 -1", "RET 0 -1",
        "RET 0 -1", "CHAR 121 -1", "RET 0 -1", "RET 0 -1");
    listing("a=[];", "CALL 0 2", "END 0 -1", "SET 0 -1", "RET 0 -1");
    listing("a=!'' 'x'/!!'x';", "CALL 0 2", "END 0 -1", "TESTCHAR 120 8", "CHOICE 0 8",
        "CHOICE 0 6", "FAILTWICE 0 -1", "CHAR 120 -1", "COMMIT 0 12", "CHOICE 0 12",
        "TESTCHAR 120 11", "FAIL 0 -1", "FAILTWICE 0 -1", "RET 0 -1");
    MatchHouse house = with("a='x';");
    due("program(4, 0)", house.program(4, 0), -1);
    due("program(3, 0)", house.program(3, 0), 15);
    due("program(3, 4)", house.program(3, 4), -1);
    for (int odd : ODD) {
      due("program(odd, 0)", house.program(odd, 0), -1);
      due("program(0, odd)", house.program(0, odd), -1);
    }
  }

  private static void sets() {
    MatchHouse house = with("a=[ab][^ab][];");
    due("set(0, 3)", house.set(0, 3), 6);
    due("set(0, 2)", house.set(0, 2), 0);
    due("set(1, 3)", house.set(1, 3), ~6);
    due("set(1, 0)", house.set(1, 0), -1);
    due("set(2, 3)", house.set(2, 3), 0);
    due("set(3, 0)", house.set(3, 0), 0);
    due("count(2)", house.count(2), 3);
    MatchHouse other = with("a=[ab]?'q'*[ba]/[xy];");
    due("equal ones once: count(2)", other.count(2), 4);
    due("the test's, of the whole choice's first part", other.set(0, 3), 2 | 4 | 1 << 17);
    due("the option's", other.set(1, 3), 6);
    due("the span's", other.set(2, 3), 1 << 17);
    due("the last part's", other.set(3, 3), 1 << 24 | 1 << 25);
    due("set(1, 8)", house.set(1, 8), 0);
    due("set(0, 8)", house.set(0, 8), 0);
    due("set(2, -8)", house.set(2, -8), 0);
    Dues.grammar(house, "a=[ab];");
    Dues.grammar(house, "a=[ab];");
    due("a set of a grammar that was", house.set(1, 0), 0);
    Dues.grammar(house, "a=[ab][^ab][];");
    for (int odd : ODD) {
      due("set(odd, 0)", house.set(odd, 0), 0);
      due("set(1, odd)", house.set(1, odd), 0);
    }
  }

  private static void images() {
    MatchHouse house = with("a=.;");
    String due = "89f0 b960000000" + rows("90", 25)
        + "81e0f0ff0000 898800000200 c78004000200ffffffff 89a80c000200" + rows("90", 4)
        + "81c610000000 4d 0f88b3000000 eb14" + rows("90", 17) + "89d8 f4"
        + "3b1d00200200 732f 43"
        + "81ee10000000 45 89f0" + rows("90", 11) + "81e0f0ff0000 8b8800000200"
        + "81e1e0ff0000 81c100000100 ffe1"
        + "81fe00300000 7456 81ee10000000 89f0" + rows("90", 22)
        + "81e0f0ff0000 8b8800000200 8b9804000200 8b9008000200 8ba80c000200" + rows("90", 2)
        + "81fbffffffff 74b2 89d7 81e1e0ff0000 81c100000100 ffe1"
        + "b8ffffffff f4" + rows("90", 2) + "b8feffffff f4";
    byte[] bytes = Dues.hex(due);
    due("count(3)", house.count(3), bytes.length);
    for (int i = 0; i < bytes.length; i++) {
      due("image(" + i + ")", house.image(i), bytes[i] & 255);
    }
    due("image(-1)", house.image(-1), -1);
    due("image(size)", house.image(house.count(3)), -1);
    due("image(size - 1)", house.image(house.count(3) - 1), 244);
    for (int odd : new int[] {-1, 61440, Integer.MAX_VALUE, Integer.MIN_VALUE}) {
      due("image(odd)", house.image(odd), -1);
    }
    due("place of END", house.program(1, 3), 96);
    due("place of ANY", house.program(2, 3), 99);
  }

  private static void subjects() {
    MatchHouse house = with("a=.*;");
    due("match of an empty subject", house.match(0, 5), 0);
    due("subject()", Dues.subject(house, "hello"), 5);
    due("count(5)", house.count(5), 5);
    due("count(6)", house.count(6), 0);
    due("match", house.match(0, 5), 5);
    due("a shorter one", Dues.subject(house, "he"), 2);
    due("match of the shorter one", house.match(0, 5), 2);
    due("an empty tape", house.subject(), 0);
    due("match behind it", house.match(0, 5), 0);
    due("a full one", Dues.subject(house, rows("z", 4000)), 4000);
    due("match of the full one", house.match(0, 5), 4000);
    due("match at its end", house.match(4000, 5), 0);
    due("match behind its end", house.match(4001, 5), -1);
  }

  private static void arms() {
    MatchHouse house = with("a={[bd]}.;");
    Dues.subject(house, "bcd");
    house.store(60000, 77);
    house.put(0, 5);
    house.put(8, -1);
    due("arm(4, 5)", house.arm(4, 5), false);
    due("arm(-1, 5)", house.arm(-1, 5), false);
    due("arm(0, 0)", house.arm(0, 0), false);
    due("arm(0, 1001)", house.arm(0, 1001), false);
    due("refused: count(7)", house.count(7), 0);
    due("refused: load", house.load(60000), 77);
    due("refused: eax", house.get(0), 5);
    due("refused: flags", house.get(8), 2261);
    due("arm(3, 1000)", house.arm(3, 1000), true);
    due("arm(1, 7)", house.arm(1, 7), true);
    due("count(7)", house.count(7), house.count(3));
    int[] registers = {0, 0, 0, 1, 0, 7, 12288, 28672, 0, 65536, 0};
    for (int what = 0; what < 11; what++) {
      due("armed: get(" + what + ")", house.get(what), registers[what]);
    }
    due("armed: the subject", house.load(0), 0x00646362);
    due("armed: the set", house.load(4096 + 12), 1 << 2 | 1 << 4);
    due("armed: the length", house.load(8192), 3);
    due("armed: data", house.load(60000), 0);
    due("armed: check", house.check(0), 0);
    due("armed: run", house.run(100000) > 10, true);
    due("armed: stop", house.get(10), 1);
    due("no match of 'cd'", house.get(0), -1);
    house.arm(0, 7);
    house.run(100000);
    due("a match of 'bc'", house.get(0), 2);
    due("no match() yet: peak", house.peak(), 0);
    due("no match() yet: event", house.event(0, 0), -1);
  }

  private static void matches() {
    MatchHouse house = with("a=b 'c'/b 'd';b={'x'*};");
    Dues.subject(house, "xxdq");
    due("match", house.match(0, 100), 3);
    due("match(1)", house.match(1, 100), 2);
    due("match(3)", house.match(3, 100), -2);
    due("match(4)", house.match(4, 100), -2);
    due("match(5)", house.match(5, 100), -1);
    due("match(-1)", house.match(-1, 100), -1);
    due("match(0, 0)", house.match(0, 0), -1);
    due("match(0, 1001)", house.match(0, 1001), -1);
    due("match(0, 1)", house.match(0, 1), -3);
    due("match(0, 4)", house.match(0, 4), -3);
    due("match(0, 5)", house.match(0, 5), 3);
    due("match(min)", house.match(Integer.MIN_VALUE, Integer.MIN_VALUE), -1);
    house.match(0, 100);
    due("the processor stays: stop", house.get(10), 1);
    due("the processor stays: eax", house.get(0), 3);
    due("the processor stays: event", house.load(28672 + 8 + 4), 2);
  }

  private static void longMatches() {
    // Each x doubles the tries; a level has a return and a choice.
    MatchHouse house = with("a={'x' a 'y'/'x' a 'z'/};");
    Dues.subject(house, rows("x", 20));
    due("match that does not stop", house.match(0, 1000), -4);
    due("its stop", house.get(10), 0);
    due("its peak: 20 levels of a return, an event and a choice, then a return and two events", house.peak(), 63);
    due("its event", house.event(0, 0), -1);
    due("it goes on", house.run(100000), 100000);
    due("peak stays", house.peak(), 63);
    due("match that is over", house.match(0, 62), -3);
    due("match of less", house.match(14, 1000), 0);
    // 300000 steps, then HLT, which is not tried; and 299999.
    String row = "a=(&(.*).)*" + rows("'q'?", 635);
    long[] steps = {300000, 299999};
    for (int k = 0; k < 2; k++) {
      house = with(row + (k == 0 ? ".?;" : "[qr]?;"));
      Dues.subject(house, rows("x", 139));
      house.arm(0, 1000);
      due("steps", (long) house.run(100000) + house.run(100000) + house.run(100000), steps[k]);
      due("match of " + steps[k] + " steps", house.match(0, 1000), k == 0 ? -4 : 139);
      due("its stop", house.get(10), k);
    }
  }

  private static void peaksAndEvents() {
    MatchHouse house = with("a={'x' {.}?}*;");
    Dues.subject(house, "xyxzx");
    due("match", house.match(0, 1000), 5);
    int[][] events = {{0, 0, 0}, {1, 0, 1}, {1, 1, 2}, {0, 1, 2}, {0, 0, 2}, {1, 0, 3}, {1, 1, 4},
        {0, 1, 4}, {0, 0, 4}, {0, 1, 5}};
    for (int i = 0; i < events.length; i++) {
      for (int what = 0; what < 3; what++) {
        due("event(" + i + ", " + what + ")", house.event(i, what), events[i][what]);
      }
      due("event(" + i + ", 3)", house.event(i, 3), -1);
    }
    due("event(10, 0)", house.event(10, 0), -1);
    for (int odd : ODD) {
      due("event(odd, 0)", house.event(odd, 0), -1);
      due("event(0, odd)", house.event(0, odd), -1);
    }
    due("peak: a return, and ten events", house.peak(), 11);
    due("a refused match", house.match(6, 3), -1);
    due("peak stays", house.peak(), 11);
    due("event stays", house.event(9, 2), 5);
    house.store(28676, 99);
    due("event stays behind store", house.event(0, 2), 0);
    due("match over", house.match(0, 10), -3);
    due("peak of over", house.peak(), 10);
    due("no event of over", house.event(0, 0), -1);
    Dues.grammar(house, "a={'x'}'q';");
    due("event is of the match, not the grammar", house.peak(), 10);
    due("match no", house.match(0, 10), -2);
    due("no event of no", house.event(0, 0), -1);
    due("peak of no", house.peak(), 3);
    due("match of nothing", Dues.grammar(house, "a=;"), 1);
    due("match of nothing", house.match(2, 10), 0);
    due("peak of nothing", house.peak(), 1);
    due("a thousand", Dues.grammar(house, "a={{'x'}}*;"), 1);
    Dues.subject(house, rows("x", 249));
    due("match of 249", house.match(0, 1000), 249);
    due("peak of 249", house.peak(), 997);
    due("event(995, 2)", house.event(995, 2), 249);
    due("event(996, 2)", house.event(996, 2), -1);
    Dues.subject(house, rows("x", 250));
    due("match of 250", house.match(0, 1000), -3);
    due("peak of 250", house.peak(), 1000);
  }

  private static void places() {
    MatchHouse house = new MatchHouse();
    house.put(3, 9);
    house.put(8, 1);
    house.store(0, 8);
    due("place", Dues.code(house, "43 f4"), 2);
    due("run", house.run(9), 1);
    due("stop", house.get(10), 1);
    due("eip", house.get(9), 65537);
    due("place again", Dues.code(house, "43 43 43"), 3);
    due("eip again", house.get(9), 65536);
    due("stop again", house.get(10), 0);
    due("ebx stays", house.get(3), 10);
    due("flags stay", house.get(8), 5);
    due("data stay", house.load(0), 8);
    due("count(7)", house.count(7), 3);
    due("count(6)", house.count(6), 0);
    due("run: 244 is behind", house.run(100), 3);
    due("a shorter image", Dues.code(house, "43"), 1);
    due("run of the shorter image", house.run(100), 1);
    due("an empty tape", house.place(), 0);
    due("count(7) of it", house.count(7), 0);
    due("run of it", house.run(1), 0);
    due("stop of it", house.get(10), 1);
  }

  private static void beginsAndRuns() {
    MatchHouse house = new MatchHouse();
    Dues.code(house, "eb fe 43 f4");
    due("run(100000)", house.run(100000), 100000);
    due("run(100001)", house.run(100001), -1);
    due("run(-1)", house.run(-1), -1);
    due("run(0)", house.run(0), 0);
    due("begin(2)", house.begin(2), true);
    due("run(1)", house.run(1), 1);
    due("no stop behind the last step", house.get(10), 0);
    due("run(0): no step is tried", house.run(0), 0);
    due("no stop yet", house.get(10), 0);
    due("run(1) at HLT", house.run(1), 0);
    due("stop", house.get(10), 1);
    due("run(5) with a stop", house.run(5), 0);
    due("begin(0)", house.begin(0), true);
    due("eip of begin(0)", house.get(9), 65536);
    due("no stop of begin(0)", house.get(10), 0);
    house.begin(3);
    house.run(1);
    due("begin(65536)", house.begin(65536), false);
    due("begin(-1)", house.begin(-1), false);
    due("the stop stays", house.get(10), 1);
    due("eip stays", house.get(9), 65539);
    due("begin(65535)", house.begin(65535), true);
    due("eip", house.get(9), 131071);
    due("no stop", house.get(10), 0);
    due("run at CODE's end", house.run(2), 0);
    due("HLT there", house.get(10), 1);
    Dues.code(house, "e9 fb ff 00 00");
    due("run out of CODE", house.run(5), 1);
    due("eip out of CODE", house.get(9), 131072);
    due("FETCH", house.get(10), 3);
    Dues.code(house, "e9 fa ff fe ff");
    due("run ahead of CODE", house.run(5), 1);
    due("eip ahead of CODE", house.get(9), -1);
    due("FETCH ahead of CODE", house.get(10), 3);
    Dues.code(house, "f7 f0");
    due("DIVIDE by 0", house.run(5), 0);
    due("its stop", house.get(10), 5);
  }

  private static void getsAndPuts() {
    MatchHouse house = new MatchHouse();
    for (int what = 0; what < 8; what++) {
      due("put(" + what + ")", house.put(what, -1000 - what), true);
      due("get(" + what + ")", house.get(what), -1000 - what);
    }
    due("put(8, -1)", house.put(8, -1), true);
    due("get(8)", house.get(8), 2261);
    due("put(8, 2)", house.put(8, 2), true);
    due("get(8)", house.get(8), 0);
    due("put(9)", house.put(9, 5), false);
    due("put(10)", house.put(10, 5), false);
    due("get(9)", house.get(9), 65536);
    due("get(10)", house.get(10), 0);
    due("get(11)", house.get(11), 0);
    for (int odd : ODD) {
      due("put(odd)", house.put(odd, 5), false);
      due("get(odd)", house.get(odd), 0);
    }
  }

  private static void storesAndLoads() {
    MatchHouse house = new MatchHouse();
    due("store(0)", house.store(0, 0x80C0FF01), true);
    due("load(0)", house.load(0), 0x80C0FF01);
    due("load(1)", house.load(1), 0x0080C0FF);
    due("store(65532)", house.store(65532, -2), true);
    due("load(65532)", house.load(65532), -2);
    due("load(65529)", house.load(65529), 0xFE000000);
    for (int at : new int[] {-1, 65533, 65536, 131072, Integer.MAX_VALUE, Integer.MIN_VALUE}) {
      due("store(" + at + ")", house.store(at, 5), false);
      due("load(" + at + ")", house.load(at), 0);
    }
    due("load(65532) stays", house.load(65532), -2);
  }
}
