import java.lang.reflect.Array;
import java.lang.reflect.Field;
import java.lang.reflect.Member;
import java.lang.reflect.Method;
import java.lang.reflect.Modifier;
import java.nio.charset.StandardCharsets;
import java.nio.file.Files;
import java.nio.file.Path;
import java.util.ArrayList;
import java.util.Arrays;
import java.util.HashSet;
import java.util.IdentityHashMap;
import java.util.List;
import java.util.Map;
import java.util.Set;
import java.util.TreeSet;
import java.util.regex.Matcher;
import java.util.regex.Pattern;

/** The rules of LANGUAGE.md that can be seen from the source, the classes and a count of memory. */
public final class SourceTest {
  private static final Dues DUES = new Dues("SourceTest");
  private static final String FACE = "feed end grammar fault count rule program set image subject"
      + " arm match peak event place check begin run get put store load";

  public static void main(String[] args) throws Exception {
    String source = Files.readString(Path.of("src/main/java/MatchHouse.java"), StandardCharsets.ISO_8859_1);
    String bare = withoutTexts(source);
    words(bare);
    methods(bare);
    face();
    room();
    DUES.finish();
  }

  private static void none(String rule, String bare, String pattern) {
    Matcher matcher = Pattern.compile(pattern).matcher(bare);
    String found = matcher.find() ? matcher.group() : "";
    DUES.due("rule " + rule + ": no " + pattern + " (" + found + ")", found.isEmpty(), true);
  }

  /** Comments, texts and signs are blanked, so that only code is looked at. */
  private static String withoutTexts(String source) {
    Pattern pattern = Pattern.compile("/\\*.*?\\*/|//[^\n]*|\"(\\\\.|[^\"\\\\])*\"|'(\\\\.|[^'\\\\])'", Pattern.DOTALL);
    Matcher matcher = pattern.matcher(source);
    StringBuilder bare = new StringBuilder();
    while (matcher.find()) {
      String found = matcher.group();
      boolean comment = found.startsWith("/");
      String kept = found.replaceAll("[^\n]", "");
      matcher.appendReplacement(bare, comment ? kept : "0" + kept);
    }
    matcher.appendTail(bare);
    return bare.toString();
  }

  private static void words(String bare) {
    none("1", bare, "\\bpackage\\b");
    none("2", bare, "->|::|\\bnew \\w+(<.*>)?\\([^;]*\\) *\\{");
    none("3", bare, "\\b(Object|HashMap|Map|Set|Random|Character|Long\\[|Double|BigInteger|boolean\\[)\\b");
    none("4", bare, "\\b(System\\.(?!arraycopy)|\\w+Exact|Objects|Collections|Thread|Stream)\\b");
    none("6", bare, "\\b(throw|throws|try|catch|finally|synchronized|assert|native|volatile|yield)\\b");
    none("9", bare, "while *\\( *true *\\)|for *\\( *; *; *\\)");
    Matcher imports = Pattern.compile("import ([\\w.*]+);").matcher(bare);
    while (imports.find()) {
      boolean fine = Arrays.asList("java.util.Arrays", "java.util.ArrayList", "java.util.List",
          "java.util.Iterator").contains(imports.group(1));
      DUES.due("rule 4: import " + imports.group(1), fine, true);
    }
    Matcher statics = Pattern.compile("\\bstatic\\b[^;{(=]*[;=]").matcher(bare);
    while (statics.find()) {
      DUES.due("rule 5: " + statics.group(), statics.group().contains("final"), true);
    }
    none("5", bare, "static *\\{");
    for (int i = 0; i < bare.length(); i++) {
      DUES.due("only signs up to 127 at " + i, bare.charAt(i) < 128, true);
    }
  }

  private static void methods(String bare) {
    Matcher heads = Pattern.compile("\n( +)(?:\\w+(?:\\[\\])* )*\\w+\\(([^()]*)\\) \\{").matcher(bare);
    int seen = 0;
    while (heads.find()) {
      if (heads.group().matches("(?s)\\s*(if|for|while|switch|else|return|do)\\b.*")) {
        continue;
      }
      seen++;
      String head = heads.group().trim();
      int end = bare.indexOf("\n" + heads.group(1) + "}", heads.end());
      int lines = bare.substring(heads.start() + 1, end < 0 ? bare.length() : end + 1).split("\n").length;
      DUES.due("rule 11: lines of " + head + ": " + lines, lines <= 60, true);
      int parameters = heads.group(2).isBlank() ? 0 : heads.group(2).split(",").length;
      DUES.due("rule 11: parameters of " + head, parameters <= 7, true);
    }
    DUES.due("methods were found", seen > 150, true);
  }

  private static void face() {
    Set<String> due = new TreeSet<>(Arrays.asList(FACE.split(" ")));
    Set<String> found = new TreeSet<>();
    List<Member> members = new ArrayList<>();
    members.addAll(Arrays.asList(MatchHouse.class.getDeclaredMethods()));
    members.addAll(Arrays.asList(MatchHouse.class.getDeclaredFields()));
    members.addAll(Arrays.asList(MatchHouse.class.getDeclaredConstructors()));
    for (Member member : members) {
      boolean isPublic = Modifier.isPublic(member.getModifiers());
      DUES.due("rule 1: " + member, isPublic || Modifier.isPrivate(member.getModifiers()), true);
      if (isPublic && member instanceof Method) {
        found.add(member.getName());
      }
      if (isPublic && member instanceof Field) {
        DUES.due("rule 1: " + member, member.getName().equals("NONE"), true);
      }
    }
    DUES.due("rule 1: the face " + found, found.equals(due), true);
    Class<?>[] inside = MatchHouse.class.getDeclaredClasses();
    DUES.due("rule 11: classes", inside.length + 1 <= 12, true);
    for (Class<?> one : inside) {
      DUES.due("rule 1: " + one, Modifier.isStatic(one.getModifiers()), true);
      for (Method method : one.getDeclaredMethods()) {
        DUES.due("rule 1: " + method, due.contains(method.getName()), false);
      }
      int fields = 0;
      for (Field field : one.getDeclaredFields()) {
        fields += Modifier.isStatic(field.getModifiers()) ? 0 : 1;
      }
      DUES.due("rule 11: fields of " + one + ": " + fields, fields <= 20, true);
    }
  }

  // ---- the room

  private static long elementsOf(Object value, Map<Object, Boolean> seen) throws Exception {
    if (value == null || seen.put(value, true) != null) {
      return 0;
    }
    if (value.getClass().isArray()) {
      return Array.getLength(value);
    }
    long all = 0;
    for (Field field : value.getClass().getDeclaredFields()) {
      if (Modifier.isStatic(field.getModifiers())) {
        continue;
      }
      field.setAccessible(true);
      all++;
      if (!field.getType().isPrimitive()) {
        all += elementsOf(field.get(value), seen);
      }
    }
    return all;
  }

  private static long allocated() {
    java.lang.management.ThreadMXBean bean = java.lang.management.ManagementFactory.getThreadMXBean();
    return ((com.sun.management.ThreadMXBean) bean).getThreadAllocatedBytes(Thread.currentThread().getId());
  }

  private static int use(MatchHouse house, int[][] texts) {
    int all = 0;
    for (int[] text : texts) {
      house.end(0);
      for (int k = 0; k < text.length; k += 5) {
        house.feed(text[k], text[k + 1], text[k + 2], text[k + 3], text[k + 4]);
      }
      all += house.grammar() + house.fault(0) + house.count(3) + house.rule(0, 5);
      house.feed(0x61626162, 0x61626162, 0, 0, 0);
      all += house.subject() + house.match(0, 100) + house.peak() + house.event(0, 0) + house.check(0);
      house.feed(0xB8010203, 0x04F40000, 0, 0, 0);
      all += house.place() + house.check(1) + house.run(9) + house.get(0) + house.load(0);
    }
    return all;
  }

  private static void room() throws Exception {
    MatchHouse house = new MatchHouse();
    Map<Object, Boolean> seen = new IdentityHashMap<>();
    long elements = elementsOf(house, seen);
    System.out.println("a house: " + seen.size() + " objects, " + elements + " fields and elements");
    DUES.due("a house is small enough", elements < 700000, true);
    String[] grammars = {"s={'ab'}*/[a-z]+!'x' t;t='q'?;", "s=s;", "s=''*;", "s", "s='ab'^9^9;t=q;"};
    int[][] texts = new int[grammars.length][10];
    for (int t = 0; t < texts.length; t++) {
      for (int i = 0; i < 40; i++) {
        int b = i < grammars[t].length() ? grammars[t].charAt(i) : ' ';
        texts[t][i / 4] = texts[t][i / 4] << 8 | b;
      }
    }
    use(house, texts);
    allocated();
    long before = allocated();
    int sum = use(house, texts);
    long made = allocated() - before;
    System.out.println("calls make " + made + " bytes (" + sum + ")");
    DUES.due("calls make nothing: " + made, made < 2000, true);
    DUES.due("seen", new HashSet<>(seen.values()).size(), 1);
  }
}
