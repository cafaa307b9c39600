/** What the tests share: texts on the tape, and the answers that are due. */
final class Dues {
  private static final int TOLD = 40;

  private final String name;
  private int wrong = 0;
  private long asked = 0;

  Dues(String name) {
    this.name = name;
  }

  void due(String what, long got, long want) {
    asked++;
    if (got != want) {
      wrong++;
      if (wrong <= TOLD) {
        System.out.println(name + ": " + what + " answered " + got + ", due is " + want);
      }
    }
  }

  void due(String what, boolean got, boolean want) {
    due(what, got ? 1 : 0, want ? 1 : 0);
  }

  int wrong() {
    return wrong;
  }

  void finish() {
    System.out.println(name + ": " + asked + " answers, " + wrong + " not as due");
    if (wrong != 0) {
      System.exit(1);
    }
  }

  static byte[] bytes(String text) {
    byte[] all = new byte[text.length()];
    for (int i = 0; i < all.length; i++) {
      all[i] = (byte) text.charAt(i);
    }
    return all;
  }

  /** Bytes written in base 16, blanks between them as one likes. */
  static byte[] hex(String text) {
    String digits = text.replace(" ", "");
    byte[] all = new byte[digits.length() / 2];
    for (int i = 0; i < all.length; i++) {
      all[i] = (byte) Integer.parseInt(digits.substring(2 * i, 2 * i + 2), 16);
    }
    return all;
  }

  static void tape(MatchHouse house, byte[] all) {
    house.end(0);
    for (int at = 0; at < all.length; at += 20) {
      int[] five = new int[5];
      for (int i = 0; i < 20; i++) {
        int b = at + i < all.length ? all[at + i] & 255 : 0;
        five[i / 4] = five[i / 4] << 8 | b;
      }
      house.feed(five[0], five[1], five[2], five[3], five[4]);
    }
    house.end(all.length);
  }

  static int grammar(MatchHouse house, String text) {
    tape(house, bytes(text));
    return house.grammar();
  }

  static int subject(MatchHouse house, String text) {
    tape(house, bytes(text));
    return house.subject();
  }

  static int code(MatchHouse house, String hexText) {
    tape(house, hex(hexText));
    return house.place();
  }
}
