import java.lang.reflect.Method;
import java.lang.reflect.Modifier;
import java.nio.file.Files;
import java.nio.file.Path;
import java.util.ArrayList;
import java.util.HashMap;
import java.util.List;
import java.util.Map;
import java.util.Set;
import java.util.TreeSet;
import java.util.regex.Matcher;
import java.util.regex.Pattern;
import java.util.stream.Stream;

// README.md is so: every line of Java that it shows is made here, in its order, and answers what
// the line tells; its tables have every call and every refusal; it names every test.
public final class HistoryRowsReadme {
  private static final Pattern MADE = Pattern.compile("HistoryRows (\\w+) = new HistoryRows\\(\\);");
  private static final Pattern CALL = Pattern.compile("(\\w+)\\.(\\w+)\\(([^)]*)\\); +// (-?\\d+)(?:: (.+))?");
  private static final Pattern REFUSAL = Pattern.compile("(NONE|UNKNOWN|OUTSIDE|STATE|PRUNED|ROOM)\\b.*");
  private static final Path DOCUMENT = Path.of("../shared/DOC.md");
  private static final long FAR = 4000000000L;

  private static int wrong = 0;
  private static int shown = 0;
  private static final Map<String, HistoryRows> objects = new HashMap<>();
  private static final Set<String> called = new TreeSet<>();

  private static void check(boolean holds, String what) {
    if (holds) return;
    wrong++;
    System.out.println("README.md: " + what);
  }

  public static void main(String[] args) throws Exception {
    List<String> lines = Files.readAllLines(Path.of("README.md"));
    boolean inJava = false;
    for (String line : lines) {
      if (line.startsWith("```")) inJava = line.equals("```java");
      else if (inJava && !line.isBlank()) makeLine(line);
    }
    check(called.equals(names()), "shows no answer of some call: " + called);
    callTable(lines);
    refusalTable(lines);
    testsAreNamed(String.join("\n", lines));
    System.out.println(wrong == 0 ? shown + " calls answer what README.md shows" : wrong + " are not so");
    if (wrong != 0) System.exit(1);
  }

  private static Set<String> names() {
    Set<String> names = new TreeSet<>();
    for (Method m : HistoryRows.class.getDeclaredMethods()) if (isFace(m)) names.add(m.getName());
    return names;
  }

  private static boolean isFace(Method m) { return Modifier.isPublic(m.getModifiers()); }

  private static Method method(String name) {
    for (Method m : HistoryRows.class.getDeclaredMethods()) if (isFace(m) && m.getName().equals(name)) return m;
    return null;
  }

  // ---- lines of Java

  private static void makeLine(String line) throws Exception {
    Matcher made = MADE.matcher(line);
    if (made.matches()) {
      objects.put(made.group(1), new HistoryRows());
      return;
    }
    Matcher call = CALL.matcher(line);
    if (!call.matches() || !objects.containsKey(call.group(1)) || method(call.group(2)) == null) {
      check(false, "this line is no call with its answer: " + line);
      return;
    }
    Method m = method(call.group(2));
    String[] words = call.group(3).isEmpty() ? new String[0] : call.group(3).split(", ");
    Object[] numbers = new Object[words.length];
    for (int i = 0; i < words.length; i++) numbers[i] = Integer.parseInt(words[i]);
    long got = ((Number) m.invoke(objects.get(call.group(1)), numbers)).longValue();
    long want = Long.parseLong(call.group(4));
    check(got == want, line + ": the answer is " + got);
    if (call.group(5) != null) refusalIsNamed(m, want, call.group(5), line);
    called.add(m.getName());
    shown++;
  }

  private static void refusalIsNamed(Method m, long answer, String remark, String line) throws Exception {
    Matcher name = REFUSAL.matcher(remark);
    if (!name.matches()) return;
    long number = HistoryRows.class.getField(name.group(1)).getInt(null);
    boolean far = m.getReturnType() == long.class && number != HistoryRows.NONE;
    check(answer == (far ? number - FAR : number), line + ": that is not " + name.group(1));
  }

  // ---- tables

  /** The cells of each row of the table that has this head. */
  private static List<String[]> table(List<String> lines, String head) {
    List<String[]> rows = new ArrayList<>();
    int at = 0;
    while (at < lines.size() && !lines.get(at).startsWith("| " + head + " |")) at++;
    for (at += 2; at < lines.size() && lines.get(at).startsWith("|"); at++) {
      String[] cells = lines.get(at).substring(1).split("\\|", -1);
      for (int i = 0; i < cells.length; i++) cells[i] = cells[i].trim().replaceAll("^`|`$", "");
      rows.add(cells);
    }
    return rows;
  }

  /** The calls as the document's face has them, and which of them answer a long. */
  private static void callTable(List<String> lines) throws Exception {
    List<String> due = new ArrayList<>(), longs = new ArrayList<>();
    Matcher face = Pattern.compile("public (int|long) (\\w+)\\(([^)]*)\\);").matcher(Files.readString(DOCUMENT));
    while (face.find()) {
      String shape = face.group(2) + "(" + face.group(3).replace("int ", "") + ")";
      due.add(shape);
      if (face.group(1).equals("long")) longs.add(shape);
    }
    List<String> told = new ArrayList<>(), toldLong = new ArrayList<>();
    for (String[] row : table(lines, "call")) {
      told.add(row[0]);
      if (row[1].startsWith("a `long`: ")) toldLong.add(row[0]);
      check(refusalsOf(row[0]).equals(namesIn(row[2])), row[0] + " refuses " + refusalsOf(row[0]) + ", told is " + row[2]);
    }
    check(told.equals(due), "the table of calls has " + told + ", due is " + due);
    check(toldLong.equals(longs), "these answer a long: " + longs + ", told is " + toldLong);
  }

  /** The refusals that the document names after a call, in its order. */
  private static List<String> refusalsOf(String shape) throws Exception {
    String name = shape.replaceAll("\\(.*", "");
    Matcher promise = Pattern.compile("## Promise \\d+: " + name + "\n\n`[^`]*`: ([^\n]*)").matcher(Files.readString(DOCUMENT));
    if (!promise.find()) return List.of();
    return namesIn(promise.group(1).replaceAll("(is|are) (not )?PRUNED", ""));
  }

  private static List<String> namesIn(String words) {
    List<String> names = new ArrayList<>();
    Matcher m = Pattern.compile("\\b(UNKNOWN|OUTSIDE|STATE|PRUNED|ROOM)\\b").matcher(words);
    while (m.find()) names.add(m.group());
    return names;
  }

  private static void refusalTable(List<String> lines) throws Exception {
    List<String> names = new ArrayList<>();
    for (String[] row : table(lines, "constant")) {
      names.add(row[0]);
      int number = HistoryRows.class.getField(row[0]).getInt(null);
      check(Integer.parseInt(row[1]) == number, row[0] + " is " + number + ", told is " + row[1]);
      check(Long.parseLong(row[2]) == number - FAR, row[0] + " is " + (number - FAR) + " as a long, told is " + row[2]);
    }
    check(names.equals(List.of("UNKNOWN", "OUTSIDE", "STATE", "PRUNED", "ROOM")), "the table of refusals has " + names);
  }

  // ---- tests

  private static void testsAreNamed(String text) throws Exception {
    check(text.contains("    .ci/run\n"), "does not tell how the tests are run");
    try (Stream<Path> tests = Files.list(Path.of("src/test/java"))) {
      for (Path test : tests.sorted().toList()) {
        String name = test.getFileName().toString().replace(".java", "");
        check(text.contains("- `" + name + "` "), "does not name the test " + name);
      }
    }
  }
}
