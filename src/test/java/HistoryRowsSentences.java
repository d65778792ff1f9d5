import java.lang.reflect.Method;
import java.nio.file.Files;
import java.nio.file.Path;
import java.util.List;
import java.util.function.IntFunction;
import java.util.regex.Matcher;
import java.util.regex.Pattern;

// The document from its first line to its last promise, sentence by sentence in its own words and
// order, each with runs of calls that would be answered otherwise if the sentence did not hold.
// The words are compared with ../shared/DOC.md: a sentence there that has no runs here is a failure.
//
// A run is made on a new object. Its calls stand as text, "at(3, 1)=7" with the answer that is due;
// a call without one leads to what is asked, and must not be refused. A refusal's name stands for
// its number, and for 4000000000 less where the call answers a long.
public final class HistoryRowsSentences {
  private static final int LOW = Integer.MIN_VALUE, HIGH = Integer.MAX_VALUE;
  private static final long FAR = 4000000000L;
  private static final int MOST_CALLS = 512;
  private static final Pattern CALL = Pattern.compile("(\\w+)\\(([^)]*)\\)(?:=(\\S+))?");
  private static final List<String> REFUSALS = List.of("UNKNOWN", "OUTSIDE", "STATE", "PRUNED", "ROOM");

  private static int wrong = 0;
  private static int sentences = 0;
  private static int calls = 0;
  private static String document = "";
  private static int read = 0;
  private static String promise = "";
  private static String sentence = "";

  public static void main(String[] args) throws Exception {
    document = wordsOf(Path.of("../shared/DOC.md"));
    whatItIs();
    leavesAndAnswers();
    blocks();
    digests();
    pruning();
    archives();
    replaysAndProofs();
    stepsBack();
    promises1To4();
    promises5To8();
    promises9To12();
    promises13To17();
    promises18To20();
    promises21To23();
    promises24To26();
    if (!document.substring(read).isBlank()) tell("no test has the words \"" + document.substring(read).trim() + "\"");
    System.out.println(wrong == 0 ? sentences + " sentences hold, by " + calls + " calls" : wrong + " are not as due");
    if (wrong != 0) System.exit(1);
  }

  // ---- the document's words

  /** All but headings, marks of layout, and the face, which HistoryRowsFace compares. */
  private static String wordsOf(Path path) throws Exception {
    StringBuilder words = new StringBuilder();
    boolean inFace = false;
    for (String line : Files.readAllLines(path)) {
      if (line.startsWith("## Not promised")) break;
      if (line.startsWith("```")) inFace = line.equals("```java");
      if (inFace || line.startsWith("```") || line.startsWith("#")) continue;
      words.append(line.replaceFirst("^==== \\d+ ", "")).append(' ');
    }
    return words.toString().replaceAll("\\s+", " ");
  }

  private static void readOn(String words) {
    int at = document.indexOf(words, read);
    if (at < 0) {
      tell("these words do not stand in the document, or not here");
      return;
    }
    String between = document.substring(read, at);
    if (!between.isBlank()) tell("no test has the words before it: \"" + between.trim() + "\"");
    read = at + words.length();
  }

  /** A sentence, and the runs that show it. */
  private static void says(String words, String... runs) {
    sentence = words;
    sentences++;
    readOn(words);
    if (runs.length == 0) tell("has no run");
    for (String run : runs) make(run);
  }

  /** The line that begins a promise's text: the call is there, as it is written. */
  private static void promise(int number, String shape) {
    promise = "promise " + number + ": ";
    sentence = "`" + shape + "`:";
    sentences++;
    readOn(sentence);
    if (number == 1) return;
    String types = shape.replaceAll("(\\w+) \\w+([,)])", "$1$2");
    for (Method m : HistoryRows.class.getMethods()) {
      StringBuilder text = new StringBuilder(m.getReturnType().getName()).append(' ').append(m.getName()).append('(');
      String comma = "";
      for (Class<?> type : m.getParameterTypes()) { text.append(comma).append(type.getName()); comma = ", "; }
      if (text.append(')').toString().equals(types)) return;
    }
    tell("there is no such call");
  }

  private static void tell(String what) {
    wrong++;
    System.out.println(promise + "\"" + sentence + "\": " + what);
  }

  // ---- runs

  private static void make(String run) {
    allIsCalls(run);
    HistoryRows x = new HistoryRows();
    int made = 0;
    for (Matcher m = CALL.matcher(run); m.find(); made++) {
      long got = answerOf(x, m.group(1), m.group(2));
      if (m.group(3) == null) {
        if (isRefusal(m.group(1), got)) tell(m.group() + ", which leads to what is asked, is refused: " + got);
        continue;
      }
      long want = due(m.group(1), m.group(3));
      if (got != want) tell(m.group(1) + "(" + m.group(2) + ") answered " + got + ", due is " + want);
    }
    count(made);
  }

  /** A slip of the pen would else be skipped without a word. */
  private static void allIsCalls(String run) {
    String rest = CALL.matcher(run).replaceAll("").trim();
    if (!rest.isEmpty()) tell("no call: \"" + rest + "\"");
  }

  private static void count(int made) {
    calls += made;
    if (made == 0 || made > MOST_CALLS) tell("a run of " + made + " calls");
  }

  private static long answerOf(HistoryRows x, String name, String words) {
    String[] parts = words.isBlank() ? new String[0] : words.split(",");
    Object[] args = new Object[parts.length];
    for (int i = 0; i < parts.length; i++) args[i] = (int) number(parts[i].trim());
    try {
      return ((Number) method(name).invoke(x, args)).longValue();
    } catch (ReflectiveOperationException e) {
      throw new IllegalStateException(name + "(" + words + ") in \"" + sentence + "\" failed", e);
    }
  }

  private static Method method(String name) {
    for (Method m : HistoryRows.class.getMethods()) if (m.getName().equals(name)) return m;
    throw new IllegalStateException("there is no call " + name);
  }

  private static boolean answersLong(String name) { return method(name).getReturnType() == long.class; }

  private static boolean isRefusal(String name, long answer) {
    long near = answersLong(name) ? answer + FAR : answer;
    return !name.equals("lay") && near >= -105 && near <= -101;
  }

  private static long due(String name, String word) {
    boolean far = REFUSALS.contains(word) && answersLong(name);
    return far ? number(word) - FAR : number(word);
  }

  private static long number(String word) {
    return switch (word) {
      case "low" -> LOW;
      case "high" -> HIGH;
      case "NONE" -> -1;
      case "UNKNOWN" -> -101;
      case "OUTSIDE" -> -102;
      case "STATE" -> -103;
      case "PRUNED" -> -104;
      case "ROOM" -> -105;
      default -> Long.parseLong(word);
    };
  }

  /** What is refused, or asked, changes nothing: what follows is answered as by an equal object. */
  private static void unchanged(String before, String between, String after) {
    allIsCalls(before + between + after);
    HistoryRows x = new HistoryRows(), y = new HistoryRows();
    int made = 0;
    for (Matcher m = CALL.matcher(before); m.find(); made++) {
      answerOf(x, m.group(1), m.group(2));
      answerOf(y, m.group(1), m.group(2));
    }
    for (Matcher m = CALL.matcher(between); m.find(); made++) {
      long got = answerOf(x, m.group(1), m.group(2));
      if (got != due(m.group(1), m.group(3))) tell(m.group() + " answered " + got);
    }
    for (Matcher m = CALL.matcher(after); m.find(); made++) {
      long got = answerOf(x, m.group(1), m.group(2)), want = answerOf(y, m.group(1), m.group(2));
      if (got != want) tell(m.group() + " answered " + got + " after " + between + ", and " + want + " without it");
    }
    count(made);
  }

  // ---- texts of calls

  private static String each(int from, int to, IntFunction<String> form) {
    StringBuilder text = new StringBuilder();
    for (int n = from; n <= to; n++) text.append(form.apply(n)).append(' ');
    return text.toString();
  }

  /** The call with each of some numbers in the place of #, and the answer that is due. */
  private static String with(String form, String answer, int... numbers) {
    StringBuilder text = new StringBuilder();
    for (int n : numbers) text.append(form.replace("#", "" + n)).append('=').append(answer).append(' ');
    return text.toString();
  }

  private static String noLeaf(String form) { return with(form, "UNKNOWN", -1, 32, LOW, HIGH); }

  private static String noHeight(String form, int top) { return with(form, "UNKNOWN", -1, top + 1, LOW, HIGH); }

  private static String outside(String form, int least, int most) {
    return with(form, "OUTSIDE", least - 1, most + 1, LOW, HIGH);
  }

  private static String counts(int height, int writes, int rows, int archived, int archives, int pruned) {
    return "count(0)=" + height + " count(1)=" + writes + " count(2)=" + rows + " count(3)=" + archived
        + " count(4)=" + archives + " count(5)=" + pruned + " ";
  }

  /** What a new object answers. */
  private static String atTheBeginning() {
    return counts(0, 0, 0, 0, 0, 0) + each(0, 31, i -> "at(" + i + ", 0)=0 now(" + i + ")=0 row(" + i + ", 0, 0)=NONE")
        + "digest(0)=" + digestOf(new int[32]) + " digest(1)=UNKNOWN pruned(0)=0 bring()=STATE archive(0, 0)=UNKNOWN "
        + each(0, 4, i -> "lay(" + i + ", 0)=0") + "rule(0)=0 write(0, 0, 0)=1 drop()=1 ";
  }

  private static String empty(int heights) { return each(1, heights, h -> "seal()"); }

  /** Leaf 0 gets value h by call h at each height up to one. */
  private static String rising(int top) { return each(1, top, h -> "write(" + h + ", 0, " + h + ") seal()"); }

  /** Rows of leaves 0, 1 .. 31, 0, 1 .., by 32 at a height; the value is the height. */
  private static String rows(int n) {
    return each(0, n - 1, i -> "write(0, " + i % 32 + ", " + (i / 32 + 1) + ")"
        + (i % 32 == 31 || i == n - 1 ? " seal()" : ""));
  }

  private static String writes(int n) { return each(1, n, i -> "write(5, 0, " + i + ")=" + i); }

  /** Leaf 3 holds 0, 7, 7, 0, 9, 7 at heights 0 to 5; leaf 8 holds -1 from height 2 on. */
  private static final String FIVE = "write(10, 3, 7) seal() write(20, 8, -1) seal() write(30, 3, 0) seal() "
      + "write(40, 3, 9) seal() write(50, 3, 7) seal() ";
  /** Heights 1 and 3 are pruned; the row of leaf 3 at height 3 is archived. */
  private static final String SPARED = FIVE + "rule(2) prune(4) ";

  // ---- digests, in unsigned numbers of 64 bits that are cut to 32 after each step

  private static long join(long l, long r) {
    long x = (31 * l + r) & 0xFFFFFFFFL;
    return ((x ^ (x >> 15)) * 0x2C1B3C6DL) & 0xFFFFFFFFL;
  }

  private static long wide(int from, int n, int[] state) {
    if (n == 1) return ((state[from] & 0xFFFFFFFFL) * 31 + from) & 0xFFFFFFFFL;
    return join(wide(from, n / 2, state), wide(from + n / 2, n / 2, state));
  }

  private static int digestOf(int[] state) { return (int) wide(0, 32, state); }

  /** Number i of the proof: of the leaves beside those 1 << i that the leaf is among. */
  private static int beside(int leaf, int i, int[] state) { return (int) wide(((leaf >> i) ^ 1) << i, 1 << i, state); }

  private static String lay(int leaf, int[] state) { return each(0, 4, i -> "lay(" + i + ", " + beside(leaf, i, state) + ")"); }

  private static int[] holding(int... leavesAndValues) {
    int[] state = new int[32];
    for (int i = 0; i < leavesAndValues.length; i += 2) state[leavesAndValues[i]] = leavesAndValues[i + 1];
    return state;
  }

  /** The states of FIVE. */
  private static int[] five(int height) {
    int[] three = {0, 7, 7, 0, 9, 7};
    return holding(3, three[height], 8, height < 2 ? 0 : -1);
  }

  private static int digestOfFive(int height) { return digestOf(five(height)); }

  private static String digestsOfFive() { return each(0, 5, h -> "digest(" + h + ")=" + digestOfFive(h)); }

  private static String valuesOfFive() {
    return each(0, 5, h -> "at(3, " + h + ")=" + five(h)[3] + " at(8, " + h + ")=" + five(h)[8]);
  }

  /** A state in which each leaf holds another value, large ones of both signs among them. */
  private static int[] many() {
    int[] state = new int[32];
    for (int leaf = 0; leaf < 32; leaf++) state[leaf] = (leaf + 1) * 1000000007;
    return state;
  }

  private static String write(int[] state) { return each(0, 31, i -> "write(0, " + i + ", " + state[i] + ")"); }

  // ---- "What it is"

  private static void whatItIs() {
    says("Old heights of a ledger: what leaves held is asked at any height that is kept;",
        FIVE + valuesOfFive(),
        SPARED + "at(3, 0)=0 at(3, 1)=PRUNED at(3, 2)=7 at(3, 3)=PRUNED at(3, 4)=9 at(3, 5)=7");
    says("blocks leave rows for what they changed, with the call that did it;",
        FIVE + "count(2)=5 row(3, 0, 0)=1 row(3, 0, 1)=10 row(3, 1, 0)=3 row(3, 1, 1)=30 row(8, 0, 0)=2 row(8, 0, 1)=20");
    says("heights are pruned by a rule, rows that no kept height needs go to archives that come back whole;",
        FIVE + "rule(2)=0 prune(4)=2 pruned(0)=0 pruned(1)=1 pruned(2)=0 pruned(3)=1 archive(0, 0)=1 row(3, 1, 0)=4 "
            + "bring()=1 row(3, 1, 0)=3 row(3, 1, 1)=30 at(3, 3)=0 pruned(1)=0");
    says("digests and proofs stay;",
        FIVE + lay(3, five(3)) + "prune(5) forget() "
            + digestsOfFive() + each(0, 5, h -> "proves(3, " + five(h)[3] + ", " + h + ")=" + (h < 2 ? 0 : 1)));
    says("differences, replays, the first height of a value, steps back.",
        FIVE + "differs(0, 2)=2 difference(0, 2, 1)=8 replay(1, 4)=" + digestOfFive(4) + " replayed(1, 4)=3 first(3, 9)=4 "
            + "back(3)=2 count(0)=3");
    says("An object is used for at most 512 calls after it has been made; what later calls answer is free.",
        each(1, 200, h -> "write(" + h + ", " + h % 32 + ", " + h + ")=1 seal()=" + h)
            + each(1, 111, h -> "at(" + h % 32 + ", " + h + ")=" + h) + "count(2)=200");
    goOnAfter512();
  }

  /** What is answered is free there, but still no call may throw. */
  private static void goOnAfter512() {
    HistoryRows x = new HistoryRows();
    String round = each(0, 70, i -> "write(5, " + i % 33 + ", " + i + ")") + "seal() seal() at(3, 1) now(3) digest(2) "
        + "blame(3, 1, 0) first(3, 3) differs(0, 1) difference(0, 1, 0) rule(3) prune(1) prune(2) pruned(1) bring() "
        + "archive(0, 0) replay(0, 3) replayed(0, 3) proof(3, 3, 4) lay(4, 4) proves(3, 3, 3) row(3, 0, 0) count(2) drop() ";
    for (int n = 0; n < 250; n++) {
      if (n % 50 == 40) answerOf(x, "forget", "");
      if (n % 50 == 45) answerOf(x, "back", "" + x.count(0));
      if (n == 220) answerOf(x, "clear", "");
      for (Matcher m = CALL.matcher(round); m.find();) answerOf(x, m.group(1), m.group(2));
    }
  }

  // ---- "Terms"

  private static void leavesAndAnswers() {
    says("LEAVES are 0 to 31;",
        each(0, 31, i -> "write(1, " + i + ", " + (100 + i) + ")=" + (i + 1)) + "write(1, 32, 1)=UNKNOWN "
            + "write(1, -1, 1)=UNKNOWN seal()=1 "
            + each(0, 31, i -> "at(" + i + ", 1)=" + (100 + i) + " row(" + i + ", 0, 0)=1") + "at(32, 1)=UNKNOWN "
            + "at(-1, 1)=UNKNOWN");
    String extremes = "";
    for (int v : new int[] {LOW, LOW + 1, -65536, -105, -101, -1, 1, 32768, 65536, HIGH - 1, HIGH}) {
      extremes += "clear() write(0, 9, " + v + ")=1 now(9)=" + v + " seal()=1 at(9, 1)=" + v + " first(9, " + v + ")=1 "
          + "differs(0, 1)=1 digest(1)=" + digestOf(holding(9, v)) + " ";
    }
    says("VALUES any number of 32 bits, 0 at first.",
        extremes,
        each(0, 31, i -> "at(" + i + ", 0)=0 now(" + i + ")=0 first(" + i + ", 0)=0"));
    says("Calls answer, the first of these that fits:",
        SPARED + "write(9, 3, 1) write(1000, 32, 1)=UNKNOWN write(8, 32, 1)=UNKNOWN write(-1, 3, 1)=OUTSIDE "
            + "write(8, 3, 1)=STATE",
        FIVE + each(1, 60, i -> "write(9, 3, 1)") + "write(9, 32, 1)=UNKNOWN write(1000, 3, 1)=OUTSIDE write(8, 3, 1)=STATE "
            + "write(9, 3, 1)=ROOM",
        SPARED + "at(32, 1)=UNKNOWN blame(32, 1, 2)=UNKNOWN blame(3, 6, 2)=UNKNOWN blame(3, 1, 2)=OUTSIDE "
            + "blame(3, 1, 1)=PRUNED",
        SPARED + "differs(1, 6)=UNKNOWN differs(6, 1)=UNKNOWN difference(1, 6, 0)=UNKNOWN difference(6, 1, 0)=UNKNOWN",
        SPARED + "archive(1, 2)=UNKNOWN archive(0, 2)=OUTSIDE row(32, 0, 2)=UNKNOWN row(3, 9, 2)=OUTSIDE",
        SPARED + "replay(6, 1)=UNKNOWN replay(3, 6)=UNKNOWN replay(3, -1)=UNKNOWN replay(3, 1)=OUTSIDE replay(1, 3)=PRUNED",
        SPARED + "replayed(6, 1)=UNKNOWN replayed(3, 6)=UNKNOWN replayed(3, -1)=UNKNOWN replayed(3, 1)=OUTSIDE "
            + "replayed(1, 3)=PRUNED",
        SPARED + "proof(32, 1, 5)=UNKNOWN proof(3, 6, 5)=UNKNOWN proof(3, 1, 5)=OUTSIDE proof(3, 1, 4)=PRUNED",
        SPARED + "back(6)=UNKNOWN back(1)=STATE forget() back(6)=UNKNOWN back(1)=PRUNED",
        rising(9) + each(1, 8, h -> "prune(" + h + ")") + "prune(10)=UNKNOWN prune(9)=ROOM");
    says("UNKNOWN -101 (a LEAF;",
        FIVE + noLeaf("write(60, #, 1)") + noLeaf("at(#, 1)") + noLeaf("now(#)") + noLeaf("blame(#, 1, 0)")
            + noLeaf("first(#, 0)") + noLeaf("proof(#, 1, 0)") + noLeaf("proves(#, 0, 1)") + noLeaf("row(#, 0, 0)")
            + "write(60, 32, 1)=-101 now(32)=-4000000101",
        FIVE + "write(60, 31, 1)=1 at(31, 1)=0 now(31)=1 blame(31, 1, 0)=NONE first(31, 0)=0 proves(31, 0, 1)=0 "
            + "row(31, 0, 0)=NONE");
    says("a HEIGHT below 0 or above HEIGHT;",
        FIVE + noHeight("at(3, #)", 5) + noHeight("digest(#)", 5) + noHeight("blame(3, #, 0)", 5)
            + noHeight("differs(#, 1)", 5) + noHeight("differs(1, #)", 5) + noHeight("difference(#, 1, 0)", 5)
            + noHeight("difference(1, #, 0)", 5) + noHeight("prune(#)", 5) + noHeight("pruned(#)", 5)
            + noHeight("replay(#, 5)", 5) + noHeight("replay(0, #)", 5) + noHeight("replayed(#, 5)", 5)
            + noHeight("replayed(0, #)", 5) + noHeight("proof(3, #, 0)", 5) + noHeight("proves(3, 0, #)", 5)
            + noHeight("back(#)", 5) + "pruned(6)=-101 digest(6)=-4000000101",
        FIVE + "at(3, 0)=0 at(3, 5)=7 pruned(0)=0 pruned(5)=0 differs(0, 5)=2 replayed(0, 5)=5 prune(0)=0 back(5)=0 "
            + "back(0)=5");
    says("an ARCHIVE that there is not),",
        FIVE + with("archive(#, 0)", "UNKNOWN", 0, 1, -1, LOW, HIGH) + "prune(1)=1 archive(0, 1)=1 archive(1, 1)=-101 "
            + "prune(2)=1 archive(1, 1)=1 archive(2, 1)=UNKNOWN bring() archive(1, 1)=UNKNOWN archive(0, 1)=1 forget() "
            + "archive(0, 1)=UNKNOWN");
    says("OUTSIDE -102 (another number out of its bounds),",
        FIVE + "prune(1) " + outside("write(#, 3, 1)", 0, 999) + outside("blame(3, 1, #)", 0, 1) + outside("rule(#)", 0, 100)
            + outside("archive(0, #)", 0, 1) + outside("proof(3, 1, #)", 0, 4) + outside("lay(#, 1)", 0, 4)
            + outside("row(3, 0, #)", 0, 1) + outside("count(#)", 0, 5) + "replay(2, 1)=OUTSIDE replayed(2, 1)=OUTSIDE "
            + "count(6)=-102 proof(3, 1, 5)=-4000000102");
    says("STATE -103 (as told),",
        FIVE + "write(9, 3, 1)=1 write(8, 3, 1)=-103 bring()=-103 prune(1)=1 back(5)=-103 bring()=0 back(5)=0 "
            + "write(8, 3, 1)=1");
    says("PRUNED -104 (a HEIGHT that is),",
        SPARED + "at(3, 1)=-4000000104 blame(3, 1, 0)=-104 differs(1, 2)=PRUNED differs(2, 1)=PRUNED "
            + "difference(1, 2, 0)=PRUNED difference(2, 1, 0)=PRUNED replay(1, 2)=PRUNED replay(0, 1)=PRUNED "
            + "replayed(1, 2)=PRUNED replayed(0, 1)=PRUNED proof(3, 1, 0)=PRUNED forget() back(1)=PRUNED back(3)=PRUNED "
            + "back(2)=2",
        SPARED + "at(3, 2)=7 blame(3, 2, 0)=10 differs(2, 4)=1 difference(2, 4, 0)=3 replayed(2, 4)=1 proof(2, 2, 0)=220");
    says("ROOM -105;",
        writes(60) + "write(5, 0, 1)=-105",
        empty(200) + "seal()=-105",
        rows(400) + "write(5, 0, 99) seal()=-105",
        rising(9) + each(1, 8, h -> "prune(" + h + ")=1") + "prune(9)=-105");
    nothingChanges();
    says("What answers a long (it may be any number) answers these 4000000000 less.",
        FIVE + "prune(1) at(32, 1)=-4000000101 at(3, 0)=-4000000104 now(32)=-4000000101 digest(6)=-4000000101 "
            + "replay(1, 6)=-4000000101 replay(2, 1)=-4000000102 replay(0, 1)=-4000000104 proof(3, 6, 0)=-4000000101 "
            + "proof(3, 1, 5)=-4000000102 proof(3, 0, 0)=-4000000104",
        "write(0, 1, -104) write(0, 2, low) write(0, 3, 294967195) now(1)=-104 seal() at(1, 1)=-104 at(2, 1)=-2147483648 "
            + "at(3, 1)=294967195");
    says("NONE is -1.",
        "write(0, 0, 5) seal() blame(0, 0, 0)=-1 blame(0, 1, 0)=0 first(0, 9)=-1 first(0, 0)=0 difference(0, 1, 1)=-1 "
            + "difference(0, 1, 0)=0 row(0, 1, 1)=-1 row(0, 0, 1)=0");
  }

  private static void nothingChanges() {
    String asks = each(0, 5, i -> "count(" + i + ")")
        + each(0, 31, i -> "now(" + i + ") at(" + i + ", 5) row(" + i + ", 0, 0) row(" + i + ", 0, 1)")
        + each(0, 5, h -> "digest(" + h + ") pruned(" + h + ") at(3, " + h + ") blame(3, " + h + ", 0) proof(3, " + h + ", 0)")
        + each(0, 3, k -> "row(3, " + k + ", 0)") + "archive(0, 0) archive(0, 1) archive(1, 0) "
        + each(0, 4, i -> "lay(" + i + ", 1)")
        + "rule(1) write(8, 1, 1) write(9, 1, 1) count(1) seal() count(2) bring() count(2) count(5) at(3, 1) row(3, 1, 0) ";
    says("then nothing changes.",
        SPARED + "back(2)=STATE count(0)=5 prune(6)=UNKNOWN count(4)=1 rule(101)=OUTSIDE rule(2)=2");
    String open = SPARED + "lay(0, 7) lay(4, 8) write(9, 3, 70) write(9, 9, 90) ";
    unchanged(open, "write(9, 32, 1)=UNKNOWN write(1000, 3, 1)=OUTSIDE write(8, 3, 1)=STATE ", asks);
    unchanged(open, "rule(101)=OUTSIDE rule(-1)=OUTSIDE lay(5, 9)=OUTSIDE lay(-1, 9)=OUTSIDE ", asks);
    unchanged(open, "prune(6)=UNKNOWN prune(-1)=UNKNOWN back(5)=STATE back(0)=STATE back(6)=UNKNOWN ", asks);
    unchanged(open,
        "replay(1, 5)=PRUNED replay(4, 2)=OUTSIDE replayed(3, 5)=PRUNED proof(3, 1, 0)=PRUNED proof(3, 2, 5)=OUTSIDE ",
        asks);
    unchanged(open,
        "blame(3, 1, 0)=PRUNED differs(1, 2)=PRUNED difference(2, 1, 0)=PRUNED at(3, 1)=PRUNED row(3, 0, 2)=OUTSIDE ",
        asks);
    unchanged(FIVE + "write(9, 3, 70) ", "bring()=STATE archive(0, 0)=UNKNOWN ", asks);
    unchanged(SPARED + "forget() write(9, 3, 70) ", "back(1)=PRUNED back(3)=PRUNED bring()=STATE ", asks);
    unchanged(FIVE + each(1, 60, i -> "write(9, 3, 1)"), "write(9, 3, 2)=ROOM write(8, 3, 2)=STATE ", asks);
    unchanged(FIVE + empty(195) + "write(9, 3, 2) write(9, 4, 2) ", "seal()=ROOM ", asks);
    unchanged(rows(400) + "write(9, 3, 99) write(9, 4, 99) ",
        "seal()=ROOM ",
        each(0, 5, i -> "count(" + i + ")") + each(0, 31, i -> "now(" + i + ") at(" + i + ", 13)") + "digest(13) "
            + "row(3, 12, 0) drop() seal() count(2)");
    unchanged(rising(9) + each(1, 8, h -> "prune(" + h + ")") + "write(9, 3, 2) ", "prune(9)=ROOM ", asks);
  }

  private static void blocks() {
    says("HEIGHT is 0 at first,",
        "count(0)=0 pruned(0)=0 pruned(1)=UNKNOWN seal()=1",
        "clear()=0",
        "back(0)=0 at(0, 0)=0 at(0, 1)=UNKNOWN");
    says("200 at most.",
        each(1, 200, h -> "seal()=" + h) + "seal()=ROOM count(0)=200 digest(200)=" + digestOf(new int[32])
            + " digest(201)=UNKNOWN");
    says("THE BLOCK has WRITES, 60 at most:",
        writes(60) + "write(5, 0, 61)=ROOM count(1)=60 now(0)=60 drop()=60 " + writes(60) + "seal()=1 " + writes(60));
    says("a CALL (0 to 999, none less than that of the one before), a LEAF, a VALUE.",
        "write(0, 3, 7)=1 write(0, 4, 8)=2 write(1, 5, 9)=3 write(0, 6, 1)=STATE write(998, 6, 1)=4 write(999, 7, 2)=5 "
            + "write(998, 7, 3)=STATE write(999, 31, 4)=6 write(1000, 31, 5)=OUTSIDE write(-1, 31, 5)=OUTSIDE seal()=1 "
            + "at(3, 1)=7 at(4, 1)=8 at(5, 1)=9 at(6, 1)=1 at(7, 1)=2 at(31, 1)=4 row(3, 0, 1)=0 row(5, 0, 1)=1 "
            + "row(6, 0, 1)=998 row(31, 0, 1)=999 write(0, 3, 1)=1",
        "write(5, 3, 7)=1 drop()=1 write(4, 3, 7)=1 back(0)=0 write(3, 3, 7)=1 clear()=0 write(2, 3, 7)=1");
    says("SEALED, HEIGHT is one more, and THE BLOCK is empty again.",
        "write(5, 3, 7) write(6, 4, 8) seal()=1 count(0)=1 count(1)=0 drop()=0 now(3)=7 write(0, 3, 7)=1 count(1)=1 seal()=2 "
            + "count(0)=2 count(1)=0 seal()=3");
    says("THE STATE of a HEIGHT is what LEAVES hold behind its BLOCK.",
        "write(1, 3, 7) write(1, 3, 8) write(1, 4, 9) at(3, 0)=0 seal() at(3, 0)=0 at(3, 1)=8 at(4, 1)=9 write(1, 3, 5) "
            + "at(3, 1)=8 seal() at(3, 1)=8 at(3, 2)=5 at(4, 2)=9 digest(2)=" + digestOf(holding(3, 5, 4, 9)));
    says("A LEAF that has another VALUE behind a BLOCK than ahead of it gets a ROW:",
        "write(1, 3, 7) write(1, 4, 0) write(1, 5, 6) write(1, 5, 0) seal() count(2)=1 row(3, 0, 0)=1 row(4, 0, 0)=NONE "
            + "row(5, 0, 0)=NONE write(1, 3, 7) seal() count(2)=1 write(1, 3, 8) write(1, 3, 7) seal() count(2)=1 "
            + "write(1, 3, 0) seal() count(2)=2 row(3, 1, 0)=4",
        each(0, 31, i -> "write(1, " + i + ", low)") + "seal() count(2)=32");
    says("this HEIGHT, the VALUE, the CALL of its last WRITE there.",
        "seal() write(4, 3, 7) write(5, 3, 8) write(6, 9, 1) seal() row(3, 0, 0)=2 row(3, 0, 1)=5 row(9, 0, 1)=6 "
            + "row(3, 1, 0)=NONE at(3, 2)=8 blame(3, 2, 0)=5",
        "write(1, 3, 7) write(2, 3, 7) seal() row(3, 0, 1)=2 write(3, 3, 8) write(4, 3, 9) write(5, 3, 8) seal() "
            + "row(3, 1, 1)=5 write(6, 3, 8) seal() row(3, 1, 1)=5",
        "write(900, 3, 7) drop() write(1, 3, 7) seal() row(3, 0, 1)=1");
    says("There are 400 ROWS at most (archived ones too).",
        rows(399) + "write(0, 0, 99) write(0, 1, 99) seal()=ROOM write(0, 1, 13) seal()=14 count(2)=400 seal()=15 "
            + "write(0, 1, 99) seal()=ROOM prune(15) count(2)=32 count(3)=368 seal()=ROOM forget()=368 seal()=16 "
            + "count(2)=33",
        rows(400) + "write(0, 0, 99) seal()=ROOM back(12)=16 write(0, 0, 99) seal()=13 count(2)=385");
  }

  private static void digests() {
    int[] many = many();
    says("DIGEST of a STATE: of a LEAF it is its VALUE times 31 and its number;",
        write(many) + "seal() " + each(0, 31, i -> "proof(" + i + ", 1, 0)=" + (many[i ^ 1] * 31 + (i ^ 1))),
        each(0, 31, i -> "proof(" + i + ", 0, 0)=" + (i ^ 1)),
        "write(0, 5, 10) write(0, 6, -1) seal() proof(4, 1, 0)=315 proof(7, 1, 0)=-25");
    // 1088 is 31 * 33 + 65: nothing is left of it when it is shifted, so that it is only multiplied.
    says("of two beside each other, l and r: x = 31 l + r, then x xor (x shifted right by 15 without sign), times 0x2C1B3C6D;",
        "write(0, 2, 1) write(0, 3, 2) seal() proof(0, 1, 1)=" + (int) (1088L * 0x2C1B3C6DL),
        "write(0, 2, 2) write(0, 3, 1) seal() proof(0, 1, 1)=" + (int) ((31L * 64 + 34) * 0x2C1B3C6DL),
        "write(0, 2, 1000) write(0, 3, 2000) seal() proof(0, 1, 1)=" + (int) join(31002, 62003),
        "write(0, 2, -1) write(0, 3, -1) seal() proof(0, 1, 1)=" + (int) join(-29 & 0xFFFFFFFFL, -28 & 0xFFFFFFFFL));
    says("so of LEAVES 0 and 1, 2 and 3 .., then of these by twos, five times:",
        "digest(0)=-1692335658",
        write(many) + "seal() digest(1)=" + digestOf(many),
        write(many) + "seal() "
            + each(0, 4, i -> "proof(0, 1, " + i + ")=" + beside(0, i, many))
            + each(0, 4, i -> "proof(31, 1, " + i + ")=" + beside(31, i, many)),
        each(0, 31, i -> "write(0, " + i + ", 5) seal() digest(1)=" + digestOf(holding(i, 5)) + " back(0)"));
    says("all in 32 bits, wrapping.",
        "write(0, 0, low) seal() digest(1)=" + digestOf(holding(0, LOW)) + " proof(1, 1, 0)=-2147483648",
        "write(0, 1, high) seal() digest(1)=" + digestOf(holding(1, HIGH)) + " proof(0, 1, 0)=2147483618",
        "write(0, 31, low) write(0, 30, high) seal() digest(1)=" + digestOf(holding(31, LOW, 30, HIGH)));
  }

  private static void pruning() {
    says("PRUNED. THE RULE tells a STEP, 0 at first:",
        "rule(0)=0",
        "rule(7)=0 rule(3)=7",
        rising(4) + "prune(4)=4 pruned(0)=1");
    says("with a STEP above 0, HEIGHTS that are multiples of it are not pruned.",
        empty(12) + "rule(5) prune(12)=9 " + each(0, 12, h -> "pruned(" + h + ")=" + (h % 5 == 0 || h == 12 ? 0 : 1)),
        empty(3) + "rule(1) prune(3)=0 count(5)=0 count(4)=0",
        empty(101) + "rule(100) prune(101)=99 pruned(0)=0 pruned(50)=1 pruned(100)=0",
        empty(4) + "rule(3) rule(0) prune(4)=4 pruned(0)=1 pruned(3)=1");
    says("When all is pruned before a HEIGHT, those below it that are not, and not spared by THE RULE, are PRUNED.",
        empty(9) + "prune(4)=4 " + each(0, 9, h -> "pruned(" + h + ")=" + (h < 4 ? 1 : 0)) + "prune(6)=2 archive(1, 1)=2 "
            + "archive(0, 1)=4 prune(4)=0 count(4)=2",
        empty(9) + "rule(3) prune(7)=4 rule(2) prune(7)=1 pruned(3)=1 pruned(6)=0 pruned(0)=0 rule(0) prune(7)=2 pruned(0)=1 "
            + "pruned(6)=1 pruned(7)=0");
    says("A ROW of a LEAF is NEEDED, if some HEIGHT that is not PRUNED is at its HEIGHT or above,",
        rising(6) + "rule(3) prune(6)=4 count(2)=2 row(0, 0, 0)=3 row(0, 1, 0)=6 at(0, 3)=3",
        "write(1, 0, 1) seal() " + empty(4) + "prune(5)=5 count(2)=1 count(3)=0 at(0, 5)=1 row(0, 0, 0)=1",
        "write(1, 0, 1) seal() seal() seal() write(4, 0, 4) seal() rule(2) prune(4)=2 count(3)=0 at(0, 2)=1 rule(0) "
            + "prune(4)=2 count(3)=1");
    says("and below that of the next ROW of the LEAF (if there is one).",
        "write(1, 0, 1) seal() seal() write(3, 0, 3) seal() seal() prune(2)=2 count(3)=0 prune(3)=1 count(3)=1 "
            + "row(0, 0, 0)=3 prune(4)=1 count(3)=1",
        "write(1, 0, 1) write(1, 1, 1) seal() write(2, 1, 2) seal() prune(2)=2 count(3)=1 row(0, 0, 0)=1 row(1, 0, 0)=2 "
            + "row(1, 1, 0)=NONE",
        rising(4) + "prune(4)=4 archive(0, 0)=3 count(2)=1 at(0, 4)=4");
    says("ROWS that are not NEEDED go, into an ARCHIVE, if any HEIGHT was pruned",
        rising(5) + "prune(0)=0 count(4)=0 count(3)=0 prune(5)=5 count(4)=1 archive(0, 0)=4 count(2)=1 count(3)=4 "
            + "row(0, 0, 0)=5 prune(5)=0 count(4)=1",
        rising(5) + "prune(3)=3 prune(5)=2 archive(0, 0)=2 archive(1, 0)=2");
    says("(8 ARCHIVES at most, 0, 1, ..; one may have no ROWS).",
        rising(10) + each(1, 8, h -> "prune(" + h + ")=1 count(4)=" + h) + "archive(0, 0)=0 "
            + each(1, 7, i -> "archive(" + i + ", 0)=1") + "archive(8, 0)=UNKNOWN prune(9)=ROOM count(4)=8 prune(8)=0 "
            + "bring()=1 prune(9)=2 archive(7, 0)=2 archive(7, 1)=2",
        empty(2) + "prune(1)=1 archive(0, 0)=0 archive(0, 1)=1 bring()=0");
    says("DIGESTS of all HEIGHTS stay.",
        FIVE + "prune(5)=5 " + digestsOfFive() + "forget() " + digestsOfFive(),
        FIVE + "prune(5)=5 bring() " + digestsOfFive());
  }

  private static void archives() {
    says("The newest ARCHIVE may come back: its ROWS are where they were,",
        FIVE + "prune(2)=2 prune(4)=2 prune(5)=1 count(2)=2 row(3, 0, 0)=5 bring()=1 row(3, 0, 0)=4 row(3, 0, 1)=40 "
            + "row(3, 1, 0)=5 count(2)=3 bring()=2 row(3, 0, 0)=1 row(3, 0, 1)=10 row(3, 1, 0)=3 row(3, 1, 1)=30 "
            + "row(3, 2, 0)=4 row(3, 3, 0)=5 row(8, 0, 1)=20 bring()=0 " + valuesOfFive(),
        FIVE + "prune(5)=5 write(60, 3, 1) write(60, 1, 1) seal() bring()=3 "
            + each(0, 4, k -> "row(3, " + k + ", 0)=" + (k == 0 ? 1 : k + 2)) + "row(3, 5, 0)=NONE row(1, 0, 0)=6 at(3, 6)=1 "
            + "at(3, 3)=0 replayed(0, 6)=7");
    says("the HEIGHTS that were pruned then are so no more;",
        empty(9) + "prune(2)=2 rule(2) prune(8)=3 pruned(1)=1 pruned(3)=1 pruned(7)=1 bring() pruned(0)=1 pruned(1)=1 "
            + "pruned(2)=0 pruned(3)=0 pruned(5)=0 pruned(7)=0 count(5)=2 at(0, 3)=0 at(0, 1)=PRUNED bring() count(5)=0 "
            + "at(0, 1)=0");
    says("it is gone.",
        empty(4) + "prune(1) prune(2) count(4)=2 bring() count(4)=1 archive(1, 1)=UNKNOWN archive(0, 1)=1 bring() count(4)=0 "
            + "archive(0, 1)=UNKNOWN bring()=STATE",
        rising(3) + "prune(3) bring()=2 count(3)=0 count(2)=3 prune(3)=3 archive(0, 0)=2");
    says("ARCHIVES may be forgotten, all: their ROWS are no more,",
        FIVE + "prune(2) prune(4) prune(5) count(3)=3 count(4)=3 forget()=3 count(3)=0 count(4)=0 count(2)=2 "
            + "archive(0, 0)=UNKNOWN bring()=STATE row(3, 0, 0)=5 row(3, 1, 0)=NONE row(8, 0, 0)=2 at(3, 5)=7 at(8, 5)=-1",
        SPARED + "forget()=1 row(3, 0, 0)=1 row(3, 0, 1)=10 row(3, 1, 0)=4 row(3, 1, 1)=40 row(3, 2, 0)=5 at(3, 2)=7 "
            + "at(3, 4)=9 at(8, 2)=-1 replayed(0, 5)=4 forget()=0");
    says("and their HEIGHTS stay PRUNED.",
        SPARED + "forget() pruned(0)=0 pruned(1)=1 pruned(2)=0 pruned(3)=1 count(5)=2 at(3, 3)=PRUNED prune(4)=0 rule(0) "
            + "prune(4)=2 count(5)=4 bring() count(5)=2 pruned(1)=1 pruned(3)=1 pruned(2)=0");
    says("A ROW's CALL and HEIGHT answer for what its LEAF holds from then on (BLAME).",
        "seal() write(2, 0, 5) seal() seal() write(4, 0, 6) seal() seal() "
            + each(0, 5, h -> "blame(0, " + h + ", 0)=" + (h < 2 ? -1 : h < 4 ? 2 : 4))
            + each(0, 5, h -> "blame(0, " + h + ", 1)=" + (h < 2 ? -1 : h < 4 ? 2 : 4))
            + "prune(3) blame(0, 3, 0)=2 blame(0, 3, 1)=2 blame(0, 2, 1)=PRUNED blame(1, 5, 0)=NONE");
  }

  private static void replaysAndProofs() {
    says("A REPLAY from one HEIGHT to another one not below it, both not PRUNED:",
        FIVE + each(0, 5, h -> "replay(" + h + ", " + h + ")=" + digestOfFive(h) + " replayed(" + h + ", " + h + ")=0")
            + "replay(5, 4)=OUTSIDE replay(1, 0)=OUTSIDE replayed(5, 4)=OUTSIDE replayed(4, 5)=1",
        SPARED + "replay(1, 4)=PRUNED replay(0, 3)=PRUNED replay(3, 3)=PRUNED replay(0, 4)=" + digestOfFive(4)
            + " replayed(1, 4)=PRUNED replayed(0, 3)=PRUNED replayed(3, 3)=PRUNED replayed(0, 4)=3");
    says("LEAVES are as they were at the first; then HEIGHT by HEIGHT the ROWS that there are of it are done;",
        FIVE + "replayed(0, 5)=5 replayed(1, 5)=4 replayed(2, 4)=2 replayed(4, 5)=1 replay(2, 5)=" + digestOfFive(5)
            + " replay(4, 5)=" + digestOfFive(5),
        SPARED + "replayed(0, 5)=4 replayed(2, 5)=2 replayed(2, 4)=1 forget() replayed(0, 5)=4",
        SPARED + "bring() replayed(0, 5)=5 replayed(2, 4)=2");
    says("DIGEST of what comes is that of the other HEIGHT.",
        FIVE + each(0, 5, to -> each(0, to, from -> "replay(" + from + ", " + to + ")=" + digestOfFive(to))),
        SPARED + "replay(0, 5)=" + digestOfFive(5) + " replay(0, 2)=" + digestOfFive(2) + " replay(2, 4)=" + digestOfFive(4)
            + " now(3)=7 count(0)=5");
    int[] many = many();
    says("A PROOF of a LEAF at a HEIGHT are five numbers: the DIGEST of the LEAF beside it, of the two beside these, and so on.",
        write(many) + "seal() "
            + each(0, 31, leaf -> each(0, 4, i -> "proof(" + leaf + ", 1, " + i + ")=" + beside(leaf, i, many))),
        FIVE + each(0, 5, h -> each(0, 4, i -> "proof(2, " + h + ", " + i + ")=" + beside(2, i, five(h)))));
    says("What is LAID (five numbers, 0 at first) may be a PROOF:",
        each(0, 4, i -> "lay(" + i + ", 1)=0") + "lay(5, 1)=OUTSIDE",
        "proves(0, 0, 0)=0 " + lay(0, new int[32]) + "proves(0, 0, 0)=1",
        FIVE + lay(3, five(4)) + "proves(3, 9, 4)=1 proves(3, 7, 4)=0 proves(3, 7, 5)=1");
    says("with a VALUE of a LEAF it comes to a DIGEST, as told, each of the two on its side.",
        write(many) + "seal() "
            + each(0, 31, leaf -> lay(leaf, many) + "proves(" + leaf + ", " + many[leaf] + ", 1)=1 "
                + "proves(" + leaf + ", " + (many[leaf] ^ LOW) + ", 1)=0 "
                + "proves(" + (leaf ^ 1) + ", " + many[leaf] + ", 1)=0 "
                + "proves(" + (leaf ^ 16) + ", " + many[leaf] + ", 1)=0"),
        write(many) + "seal() "
            + each(0, 4, i -> lay(11, many) + "lay(" + i + ", " + (beside(11, i, many) ^ 1) + ") "
                + "proves(11, " + many[11] + ", 1)=0"));
  }

  private static void stepsBack() {
    says("BACK to a HEIGHT: HEIGHT is that,",
        FIVE + "back(5)=0 count(0)=5 back(2)=3 count(0)=2 at(3, 2)=7 now(3)=7 seal()=3 at(3, 3)=7 back(0)=2 count(0)=0 "
            + "now(3)=0 clear()=0");
    says("what is above is as if it never was (no ROWS, DIGESTS; ARCHIVES must be none then),",
        FIVE + "back(2)=3 count(2)=2 digest(3)=UNKNOWN at(3, 3)=UNKNOWN pruned(3)=UNKNOWN row(3, 0, 0)=1 row(3, 1, 0)=NONE "
            + "first(3, 9)=NONE blame(3, 2, 0)=10 write(1, 3, 7) seal() count(2)=2 digest(3)=" + digestOfFive(2)
            + " write(1, 3, 1) seal() row(3, 1, 0)=4 row(3, 1, 1)=1 digest(4)=" + digestOf(holding(3, 1, 8, -1))
            + " replayed(0, 4)=3",
        SPARED + "back(2)=STATE forget() back(2)=2 count(5)=1 seal()=3 pruned(3)=0 at(3, 3)=7 rule(2)=2 count(5)=1",
        SPARED + "bring() back(2)=3 count(0)=2",
        rising(3) + "back(2)=1 seal() first(0, 3)=NONE at(0, 3)=2 blame(0, 3, 0)=2 replayed(2, 3)=0",
        empty(2) + "prune(1) archive(0, 0)=0 back(2)=STATE back(0)=STATE");
    says("THE BLOCK is empty.",
        FIVE + "write(999, 3, 1) write(999, 9, 1) back(5)=0 count(1)=0 now(3)=7 now(9)=0 write(0, 9, 0)=1 seal() count(2)=5",
        FIVE + "write(999, 3, 1) back(3)=2 drop()=0 now(3)=0 write(0, 3, 0)=1 seal() count(2)=3");
  }

  // ---- the promises

  private static void promises1To4() {
    promise(1, "HistoryRows()");
    says("HEIGHT 0, all LEAVES 0.",
        atTheBeginning(),
        each(0, 31, i -> "blame(" + i + ", 0, 0)=NONE first(" + i + ", 0)=0"),
        "seal()=1 differs(0, 1)=0");
    promise(2, "int write(int call, int leaf, int v)");
    says("A WRITE of THE BLOCK: how many it has.",
        "write(0, 3, 7)=1 write(0, 3, 7)=2 write(0, 4, 7)=3 count(1)=3 now(3)=7 now(4)=7 seal()=1 write(0, 3, 7)=1 drop() "
            + "write(0, 3, 7)=1");
    says("UNKNOWN;", noLeaf("write(0, #, 1)") + "write(-1, 32, 1)=UNKNOWN count(1)=0 write(0, 31, 1)=1");
    says("OUTSIDE: the CALL;",
        outside("write(#, 0, 1)", 0, 999) + "count(1)=0 write(0, 0, 1)=1 write(999, 0, 1)=2 write(-1, 0, 1)=OUTSIDE");
    says("STATE: it is less than the one before;",
        "write(7, 0, 1)=1 write(6, 0, 2)=STATE write(0, 1, 2)=STATE write(7, 0, 3)=2 write(8, 0, 4)=3 write(7, 0, 5)=STATE "
            + "now(0)=4 seal() write(0, 0, 1)=1");
    says("ROOM.", writes(60) + "write(5, 0, 9)=ROOM write(999, 31, 9)=ROOM now(0)=60 now(31)=0 drop()=60 write(0, 0, 1)=1");
    promise(3, "int seal()");
    says("THE BLOCK is SEALED: HEIGHT.",
        "seal()=1 write(1, 0, 5) seal()=2 at(0, 2)=5 at(0, 1)=0 count(1)=0 count(0)=2 seal()=3 back(1)=1 seal()=2");
    says("ROOM: it is 200, or there would be more than 400 ROWS.",
        empty(199) + "seal()=200 seal()=ROOM write(1, 0, 5) seal()=ROOM count(1)=1 at(0, 200)=0 now(0)=5 back(199) "
            + "seal()=200",
        rows(368) + each(0, 31, i -> "write(1, " + i + ", 99)") + "seal()=13 count(2)=400",
        rows(369) + each(0, 31, i -> "write(1, " + i + ", 99)") + "seal()=ROOM count(2)=369 count(1)=32 write(1, 0, 12) "
            + "seal()=13 count(2)=400");
    promise(4, "int drop()");
    says("THE BLOCK is empty again: how many WRITES it had.",
        "drop()=0 write(9, 0, 5) write(9, 1, 5) write(9, 0, 6) drop()=3 drop()=0 count(1)=0 now(0)=0 now(1)=0 "
            + "write(0, 0, 0)=1 seal() count(2)=0",
        "write(1, 0, 4) seal() write(1, 0, 5) drop()=1 now(0)=4 at(0, 1)=4 count(0)=1 " + writes(60) + "drop()=60");
  }

  private static void promises5To8() {
    promise(5, "long at(int leaf, int height)");
    says("What a LEAF holds at a HEIGHT.",
        FIVE + "write(60, 3, 1) " + valuesOfFive() + each(0, 5, h -> "at(2, " + h + ")=0"));
    says("UNKNOWN;", FIVE + noLeaf("at(#, 0)") + noHeight("at(0, #)", 5) + "at(31, 5)=0");
    says("PRUNED.", SPARED + "at(3, 1)=PRUNED at(0, 3)=PRUNED at(3, 2)=7 forget() at(3, 1)=PRUNED at(3, 0)=0");
    promise(6, "long now(int leaf)");
    says("What a LEAF would hold behind THE BLOCK.",
        FIVE + "now(3)=7 write(1, 3, 1) now(3)=1 write(1, 3, low) now(3)=-2147483648 now(8)=-1 now(2)=0 at(3, 5)=7 prune(5) "
            + "now(3)=-2147483648 forget() now(8)=-1 drop() now(3)=7 back(5) now(3)=7");
    says("UNKNOWN.", noLeaf("now(#)") + "now(0)=0 now(31)=0");
    promise(7, "long digest(int height)");
    says("DIGEST of a HEIGHT, also of one that is PRUNED.",
        FIVE + "write(60, 3, 1) " + digestsOfFive() + "prune(5) " + digestsOfFive());
    says("UNKNOWN.", FIVE + noHeight("digest(#)", 5) + "back(4) digest(5)=UNKNOWN digest(4)=" + digestOfFive(4));
    promise(8, "int blame(int leaf, int height, int what)");
    says("BLAME of a LEAF at a HEIGHT: the CALL (what = 0), the HEIGHT of the ROW (1);",
        FIVE + "blame(3, 1, 0)=10 blame(3, 1, 1)=1 blame(3, 2, 0)=10 blame(3, 2, 1)=1 blame(3, 3, 0)=30 blame(3, 3, 1)=3 "
            + "blame(3, 5, 0)=50 blame(3, 5, 1)=5 blame(8, 5, 0)=20 blame(8, 5, 1)=2");
    says("NONE: it holds 0 from the beginning.",
        FIVE + "blame(3, 0, 0)=NONE blame(3, 0, 1)=NONE blame(8, 1, 0)=NONE blame(0, 5, 1)=NONE blame(3, 3, 0)=30 "
            + "write(1, 0, 0) seal() blame(0, 6, 0)=NONE");
    says("UNKNOWN;", FIVE + noLeaf("blame(#, 0, 0)") + noHeight("blame(0, #, 0)", 5));
    says("OUTSIDE;", FIVE + outside("blame(3, 1, #)", 0, 1));
    says("PRUNED.",
        SPARED + "blame(3, 1, 0)=PRUNED blame(3, 1, 1)=PRUNED blame(0, 3, 0)=PRUNED blame(3, 2, 0)=10 forget() "
            + "blame(3, 3, 1)=PRUNED");
  }

  private static void promises9To12() {
    promise(9, "int first(int leaf, int v)");
    says("The least HEIGHT that is not PRUNED at which a LEAF holds v;",
        FIVE + "first(3, 0)=0 first(3, 7)=1 first(3, 9)=4 first(8, -1)=2 first(0, 0)=0 prune(2) first(3, 7)=2 first(3, 0)=3 "
            + "first(0, 0)=2 prune(5) first(3, 7)=5 first(8, -1)=5 bring() bring() first(3, 7)=1");
    says("NONE.",
        FIVE + "first(3, 8)=NONE first(0, 7)=NONE write(60, 3, 8) first(3, 8)=NONE drop() prune(5) first(3, 9)=NONE "
            + "first(3, 0)=NONE");
    says("UNKNOWN.", FIVE + noLeaf("first(#, 0)"));
    promise(10, "int differs(int a, int b)");
    says("How many LEAVES hold unlike VALUES at two HEIGHTS.",
        FIVE + "differs(0, 0)=0 differs(0, 1)=1 differs(1, 0)=1 differs(0, 2)=2 differs(0, 3)=1 differs(2, 5)=0 "
            + "differs(5, 4)=1 write(60, 0, 1) differs(0, 5)=2",
        each(0, 31, i -> "write(0, " + i + ", 1)") + "seal() differs(0, 1)=32 differs(1, 0)=32 differs(1, 1)=0");
    says("UNKNOWN;", FIVE + noHeight("differs(#, 0)", 5) + noHeight("differs(0, #)", 5));
    says("PRUNED.", SPARED + "differs(1, 2)=PRUNED differs(2, 1)=PRUNED differs(3, 3)=PRUNED differs(2, 4)=1");
    promise(11, "int difference(int a, int b, int k)");
    says("The k-th of these, from 0 on, by numbers;",
        FIVE + "difference(0, 2, 0)=3 difference(0, 2, 1)=8 difference(2, 0, 0)=3 difference(2, 0, 1)=8 "
            + "difference(0, 3, 0)=8",
        "write(0, 31, 1) write(0, 0, 1) write(0, 15, 1) seal() difference(0, 1, 0)=0 difference(0, 1, 1)=15 "
            + "difference(0, 1, 2)=31");
    says("NONE.",
        FIVE + with("difference(0, 2, #)", "NONE", 2, 3, 32, -1, LOW, HIGH) + "difference(2, 5, 0)=NONE "
            + "difference(0, 0, 0)=NONE");
    says("UNKNOWN;", FIVE + noHeight("difference(#, 0, 0)", 5) + noHeight("difference(0, #, 0)", 5));
    says("PRUNED.",
        SPARED + "difference(1, 2, 0)=PRUNED difference(2, 1, 0)=PRUNED difference(2, 3, -1)=PRUNED difference(2, 4, 0)=3");
    promise(12, "int rule(int step)");
    says("THE RULE: the STEP (0 to 100): what it was.",
        "rule(100)=0 rule(1)=100 rule(0)=1 rule(7)=0 rule(7)=7 rule(0)=7",
        empty(4) + "rule(3)=0 prune(4)=2 pruned(3)=0 pruned(0)=0");
    says("OUTSIDE.", "rule(9)=0 " + outside("rule(#)", 0, 100) + "rule(0)=9");
    says("(What is PRUNED stays so.)",
        empty(5) + "prune(5)=5 rule(2)=0 pruned(2)=1 pruned(4)=1 count(5)=5 rule(1)=2 at(0, 2)=PRUNED");
  }

  private static void promises13To17() {
    promise(13, "int prune(int before)");
    says("All is pruned before a HEIGHT: how many HEIGHTS were.",
        FIVE + "prune(0)=0 prune(2)=2 prune(2)=0 prune(1)=0 prune(5)=3 pruned(4)=1 pruned(5)=0 count(5)=5",
        FIVE + "rule(2) prune(5)=2 rule(3) prune(5)=2 pruned(0)=0 pruned(3)=1 rule(0) prune(5)=1");
    says("UNKNOWN;", FIVE + noHeight("prune(#)", 5) + "count(5)=0 count(4)=0 prune(5)=5");
    says("ROOM: 8 ARCHIVES, and some would be.",
        rising(10) + each(1, 7, h -> "prune(" + h + ")=1") + "prune(8)=1 prune(9)=ROOM prune(10)=ROOM prune(8)=0 prune(0)=0 "
            + "count(4)=8 count(5)=8 rule(1) prune(10)=0 rule(0) forget()=7 prune(10)=2");
    promise(14, "int pruned(int height)");
    says("Whether a HEIGHT is PRUNED: 1, 0.",
        SPARED + "pruned(0)=0 pruned(1)=1 pruned(2)=0 pruned(3)=1 pruned(4)=0 pruned(5)=0 forget() pruned(1)=1 pruned(2)=0",
        SPARED + "bring() pruned(1)=0");
    says("UNKNOWN.", FIVE + noHeight("pruned(#)", 5));
    promise(15, "int bring()");
    says("The newest ARCHIVE comes back: how many ROWS it had.",
        FIVE + "prune(1)=1 prune(4)=3 prune(5)=1 bring()=1 pruned(4)=0 pruned(3)=1 bring()=2 pruned(3)=0 pruned(0)=1 "
            + "bring()=0 pruned(0)=0");
    says("STATE: there is none.",
        "bring()=STATE",
        SPARED + "bring()=1 bring()=STATE",
        SPARED + "forget() bring()=STATE",
        SPARED + "clear() bring()=STATE");
    promise(16, "int forget()");
    says("All ARCHIVES are forgotten: how many ROWS they had.",
        "forget()=0",
        FIVE + "forget()=0 prune(1) forget()=0 prune(4) prune(5) count(4)=2 forget()=3 count(4)=0 count(3)=0 count(2)=2 "
            + "forget()=0");
    promise(17, "int archive(int i, int what)");
    says("Of an ARCHIVE: how many ROWS (what = 0), how many HEIGHTS it pruned (1).",
        FIVE + "prune(1) prune(4) prune(5) archive(0, 0)=0 archive(0, 1)=1 archive(1, 0)=2 archive(1, 1)=3 archive(2, 0)=1 "
            + "archive(2, 1)=1",
        rows(400) + "prune(13) archive(0, 0)=368 archive(0, 1)=13");
    says("UNKNOWN;",
        SPARED + with("archive(#, 0)", "UNKNOWN", 1, 8, -1, LOW, HIGH) + "archive(0, 0)=1 bring() archive(0, 0)=UNKNOWN");
    says("OUTSIDE.", SPARED + outside("archive(0, #)", 0, 1));
  }

  private static void promises18To20() {
    promise(18, "long replay(int from, int to)");
    says("A REPLAY: DIGEST of what comes.",
        FIVE + "write(60, 3, 1) replay(0, 5)=" + digestOfFive(5) + " replay(1, 3)=" + digestOfFive(3) + " replay(4, 4)="
            + digestOfFive(4) + " replay(0, 0)=" + digestOfFive(0),
        SPARED + "replay(2, 5)=" + digestOfFive(5));
    says("UNKNOWN;",
        FIVE + noHeight("replay(#, 5)", 5) + noHeight("replay(0, #)", 5) + "replay(6, 5)=UNKNOWN replay(3, -1)=UNKNOWN");
    says("OUTSIDE: to is below from;",
        FIVE + "replay(1, 0)=OUTSIDE replay(5, 4)=OUTSIDE replay(5, 0)=OUTSIDE replay(4, 4)=" + digestOfFive(4));
    says("PRUNED.",
        SPARED + "replay(1, 2)=PRUNED replay(0, 1)=PRUNED replay(1, 1)=PRUNED replay(1, 3)=PRUNED replay(0, 2)="
            + digestOfFive(2));
    promise(19, "int replayed(int from, int to)");
    says("How many ROWS that REPLAY does.",
        FIVE + "write(60, 3, 1) replayed(0, 5)=5 replayed(0, 1)=1 replayed(1, 4)=3 replayed(5, 5)=0 replayed(0, 0)=0 "
            + "replayed(4, 5)=1",
        SPARED + "replayed(2, 4)=1 replayed(0, 5)=4",
        rows(400) + "replayed(0, 13)=400 replayed(12, 13)=16 replayed(0, 1)=32");
    says("UNKNOWN;",
        FIVE + noHeight("replayed(#, 5)", 5) + noHeight("replayed(0, #)", 5) + "replayed(6, 5)=UNKNOWN "
            + "replayed(3, -1)=UNKNOWN");
    says("OUTSIDE;", FIVE + "replayed(1, 0)=OUTSIDE replayed(5, 4)=OUTSIDE replayed(5, 0)=OUTSIDE replayed(4, 4)=0");
    says("PRUNED, likewise.",
        SPARED + "replayed(1, 2)=PRUNED replayed(0, 1)=PRUNED replayed(1, 1)=PRUNED replayed(3, 1)=OUTSIDE replayed(0, 2)=2");
    promise(20, "long proof(int leaf, int height, int i)");
    says("Number i (0 to 4) of the PROOF of a LEAF at a HEIGHT.",
        FIVE + each(0, 5, h -> each(0, 4, i -> "proof(9, " + h + ", " + i + ")=" + beside(9, i, five(h)))),
        FIVE + each(0, 5, h -> each(0, 4, i -> "proof(2, " + h + ", " + i + ")=" + beside(2, i, five(h)))),
        FIVE + "write(60, 3, 1) proof(2, 5, 0)=220 proof(2, 4, 0)=282 proof(2, 0, 0)=3",
        SPARED + "proof(2, 2, 0)=220 proof(2, 4, 0)=282");
    says("UNKNOWN;", FIVE + noLeaf("proof(#, 0, 0)") + noHeight("proof(0, #, 0)", 5));
    says("OUTSIDE;", FIVE + outside("proof(3, 5, #)", 0, 4));
    says("PRUNED.", SPARED + "proof(2, 1, 0)=PRUNED proof(2, 3, 4)=PRUNED proof(2, 0, 0)=3 forget() proof(2, 1, 0)=PRUNED");
  }

  private static void promises21To23() {
    promise(21, "int lay(int i, int v)");
    says("Number i (0 to 4) of what is LAID becomes v: what it was.",
        each(0, 4, i -> "lay(" + i + ", " + (i + 10) + ")=0") + each(0, 4, i -> "lay(" + i + ", 0)=" + (i + 10))
            + "lay(2, 5)=0 lay(2, 6)=5 lay(1, 1)=0 lay(3, 1)=0",
        "lay(2, 5)=0 seal() write(0, 0, 1) drop() prune(1) bring() prune(1) forget() back(1) proof(0, 1, 2) lay(2, 0)=5");
    says("OUTSIDE.", "lay(0, 3)=0 lay(4, 3)=0 " + outside("lay(#, 9)", 0, 4) + "lay(0, 0)=3 lay(4, 0)=3");
    says("(It may be any number.)",
        "lay(0, low)=0 lay(0, high)=low lay(0, -1)=high lay(0, -102)=-1 lay(0, 0)=-102 lay(0, 0)=0");
    promise(22, "int proves(int leaf, int v, int height)");
    says("Whether v of a LEAF, with what is LAID, comes to the DIGEST of a HEIGHT (also of one that is PRUNED): 1, 0.",
        FIVE + "proves(3, 7, 5)=0 " + lay(3, five(5)) + "proves(3, 7, 5)=1 proves(3, 9, 4)=1 proves(3, 0, 3)=1 "
            + "proves(3, 7, 2)=1 proves(3, 7, 1)=0 proves(3, 9, 5)=0 proves(2, 7, 5)=0 prune(5) proves(3, 9, 4)=1 "
            + "proves(3, 7, 4)=0 forget() proves(3, 0, 3)=1 proves(3, 7, 2)=1 proves(3, 7, 1)=0");
    says("UNKNOWN.", FIVE + noLeaf("proves(#, 0, 0)") + noHeight("proves(0, 0, #)", 5));
    promise(23, "int back(int height)");
    says("BACK to a HEIGHT: how many ROWS went.",
        FIVE + "back(5)=0 back(4)=1 back(2)=2 count(2)=2 back(1)=1 back(1)=0 back(0)=1 count(2)=0",
        rows(400) + "back(12)=16 back(11)=32 back(0)=352");
    says("UNKNOWN;", FIVE + noHeight("back(#)", 5) + "count(0)=5");
    says("STATE: there are ARCHIVES;",
        SPARED + "back(4)=STATE back(1)=STATE count(0)=5 bring() back(4)=1",
        SPARED + "forget() back(4)=1",
        empty(1) + "prune(1) back(1)=STATE");
    says("PRUNED.",
        SPARED + "forget() back(3)=PRUNED back(1)=PRUNED count(0)=5 back(4)=1 back(3)=PRUNED back(2)=1 back(0)=2");
  }

  private static void promises24To26() {
    promise(24, "int row(int leaf, int k, int what)");
    says("Of ROW k that there is of a LEAF, by HEIGHTS: HEIGHT (what = 0), CALL (1);",
        FIVE + "row(3, 0, 0)=1 row(3, 0, 1)=10 row(3, 1, 0)=3 row(3, 1, 1)=30 row(3, 2, 0)=4 row(3, 2, 1)=40 row(3, 3, 0)=5 "
            + "row(3, 3, 1)=50 row(8, 0, 0)=2 row(8, 0, 1)=20",
        SPARED + "row(3, 0, 0)=1 row(3, 1, 0)=4 row(3, 1, 1)=40 row(3, 2, 0)=5 bring() row(3, 1, 0)=3 row(3, 3, 1)=50");
    says("NONE: there is none such.",
        FIVE + with("row(3, #, 0)", "NONE", 4, 5, -1, LOW, HIGH) + "row(0, 0, 0)=NONE row(8, 1, 1)=NONE",
        SPARED + "row(3, 3, 0)=NONE");
    says("UNKNOWN;", FIVE + noLeaf("row(#, 0, 0)"));
    says("OUTSIDE: what.", FIVE + outside("row(3, 0, #)", 0, 1) + "row(3, 9, 2)=OUTSIDE row(0, 0, -1)=OUTSIDE");
    promise(25, "int count(int what)");
    says("HEIGHT (what = 0), WRITES of THE BLOCK (1), ROWS (2; without archived ones), archived ones (3), ARCHIVES (4), HEIGHTS that are PRUNED (5).",
        counts(0, 0, 0, 0, 0, 0) + FIVE + counts(5, 0, 5, 0, 0, 0) + "write(60, 3, 1) write(60, 3, 1) "
            + counts(5, 2, 5, 0, 0, 0) + "prune(1) " + counts(5, 2, 5, 0, 1, 1) + "prune(4) " + counts(5, 2, 3, 2, 2, 4)
            + "prune(5) " + counts(5, 2, 2, 3, 3, 5) + "bring() " + counts(5, 2, 3, 2, 2, 4) + "forget() "
            + counts(5, 2, 3, 0, 0, 4) + "seal() " + counts(6, 0, 4, 0, 0, 4) + "back(5) " + counts(5, 0, 3, 0, 0, 4));
    says("OUTSIDE.", outside("count(#)", 0, 5) + "count(5)=0");
    promise(26, "int clear()");
    says("All is as at the beginning (THE RULE, what is LAID, too): HEIGHT as it was.",
        "clear()=0 " + atTheBeginning(),
        SPARED + each(0, 4, i -> "lay(" + i + ", 7)") + "write(9, 3, 1) write(9, 4, 1) differs(0, 5) proof(3, 5, 0) "
            + "clear()=5 " + atTheBeginning() + "seal()=1 clear()=1",
        SPARED + "forget() clear()=5 seal()=1 seal()=2 pruned(1)=0 prune(2)=2 count(3)=0",
        empty(200) + "clear()=200 seal()=1",
        rows(400) + "clear()=13 write(0, 0, 1) seal()=1 count(2)=1 row(0, 0, 0)=1");
  }
}
