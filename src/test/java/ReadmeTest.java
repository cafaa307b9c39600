import java.lang.reflect.Method;
import java.nio.charset.StandardCharsets;
import java.nio.file.Files;
import java.nio.file.Path;
import java.util.Set;
import java.util.TreeSet;
import java.util.regex.Matcher;
import java.util.regex.Pattern;

/** What README.md shows of the class holds, and it shows each call of the public face. */
public final class ReadmeTest {
  private static final Dues DUES = new Dues("ReadmeTest");
  private static final Pattern CALL = Pattern.compile("house\\.(\\w+)\\(([^)]*)\\);\\s*// ([-\\w]+).*");
  private static final Pattern LAY = Pattern.compile("lay\\(house, \"([^\"]*)\"\\);\\s*// (\\d+).*");

  public static void main(String[] args) throws Exception {
    String text = Files.readString(Path.of("README.md"), StandardCharsets.US_ASCII);
    Set<String> shown = new TreeSet<>();
    MatchHouse house = new MatchHouse();
    for (String line : text.split("\n")) {
      Matcher call = CALL.matcher(line);
      Matcher lay = LAY.matcher(line);
      if (call.matches()) {
        shown.add(call.group(1));
        DUES.due(line, number(answer(house, call.group(1), call.group(2))), number(call.group(3)));
      } else if (lay.matches()) {
        DUES.due(line, lay(house, lay.group(1)), number(lay.group(2)));
      } else {
        DUES.due("a line that shows a call: " + line, line.startsWith("house.") || line.startsWith("lay("), false);
      }
    }
    for (Method method : MatchHouse.class.getDeclaredMethods()) {
      if (java.lang.reflect.Modifier.isPublic(method.getModifiers())) {
        DUES.due("README shows " + method.getName(), shown.contains(method.getName()), true);
        DUES.due("README tells of " + method.getName(), text.contains("\n- `" + method.getName() + "("), true);
      }
    }
    DUES.due("README shows how lay is written", text.contains(source()), true);
    DUES.due("README tells how the tests are run", text.contains("\n.ci/run\n"), true);
    DUES.finish();
  }

  private static String answer(MatchHouse house, String name, String list) throws Exception {
    for (Method method : MatchHouse.class.getDeclaredMethods()) {
      if (method.getName().equals(name)) {
        String[] parts = list.isEmpty() ? new String[0] : list.split(", ");
        Object[] numbers = new Object[parts.length];
        for (int i = 0; i < parts.length; i++) {
          numbers[i] = (int) number(parts[i]);
        }
        return String.valueOf(method.invoke(house, numbers));
      }
    }
    return "no such call: " + name;
  }

  private static long number(String text) {
    if (text.equals("true") || text.equals("false")) {
      return text.equals("true") ? 1 : 0;
    }
    return Long.decode(text);
  }

  /** The lines of lay below, as they stand in this file, less how far they stand in it. */
  private static String source() throws Exception {
    String all = Files.readString(Path.of("src/test/java/ReadmeTest.java"), StandardCharsets.US_ASCII);
    int start = all.lastIndexOf("  private static int lay(");
    int end = all.indexOf("\n  }\n", start) + 5;
    return all.substring(start, end).replace("\n  ", "\n").replace("  private static", "static");
  }

  private static int lay(MatchHouse house, String text) {
    house.end(0);
    for (int at = 0; at < text.length(); at += 20) {
      int[] five = new int[5];
      for (int i = 0; i < 20; i++) {
        int sign = at + i < text.length() ? text.charAt(at + i) & 255 : 0;
        five[i / 4] = five[i / 4] << 8 | sign;
      }
      house.feed(five[0], five[1], five[2], five[3], five[4]);
    }
    return house.end(text.length());
  }
}
