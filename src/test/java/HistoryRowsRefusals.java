import java.util.ArrayList;
import java.util.List;
import java.util.function.BiConsumer;
import java.util.regex.Matcher;
import java.util.regex.Pattern;

// Each refusal of each call on both sides of its boundary, and, where two refusals fit one call,
// the one that is first in the document's order. What is refused, and what only asks, must change
// nothing: it is made on one of two equal objects, and all that is asked and done afterwards must
// be answered alike by both. No object is used for more than 512 calls.
public final class HistoryRowsRefusals {
  private static final int NONE = -1, UNKNOWN = -101, OUTSIDE = -102, STATE = -103, PRUNED = -104, ROOM = -105;
  private static final long FAR = 4000000000L;
  private static final int MOST_CALLS = 512;

  private static int wrong = 0;
  private static int cases = 0;
  private static String about = "";

  // ---- calls as data, so that runs can be made twice, counted and told

  private record Call(String name, int[] args) {
    private static final Pattern FORM = Pattern.compile("(\\w+)\\(([^)]*)\\)");

    static List<Call> all(String text) {
      List<Call> found = new ArrayList<>();
      Matcher m = FORM.matcher(text);
      while (m.find()) {
        String[] words = m.group(2).isBlank() ? new String[0] : m.group(2).split(",");
        int[] args = new int[words.length];
        for (int i = 0; i < words.length; i++) args[i] = number(words[i].trim());
        found.add(new Call(m.group(1), args));
      }
      return found;
    }

    private static int number(String word) {
      return switch (word) {
        case "low" -> Integer.MIN_VALUE;
        case "high" -> Integer.MAX_VALUE;
        default -> Integer.parseInt(word);
      };
    }

    boolean answersLong() {
      return switch (name) {
        case "at", "now", "digest", "replay", "proof" -> true;
        default -> false;
      };
    }

    long on(HistoryRows x) {
      return switch (name) {
        case "write" -> x.write(args[0], args[1], args[2]);
        case "seal" -> x.seal();
        case "drop" -> x.drop();
        case "at" -> x.at(args[0], args[1]);
        case "now" -> x.now(args[0]);
        case "digest" -> x.digest(args[0]);
        case "blame" -> x.blame(args[0], args[1], args[2]);
        case "first" -> x.first(args[0], args[1]);
        case "differs" -> x.differs(args[0], args[1]);
        case "difference" -> x.difference(args[0], args[1], args[2]);
        case "rule" -> x.rule(args[0]);
        case "prune" -> x.prune(args[0]);
        case "pruned" -> x.pruned(args[0]);
        case "bring" -> x.bring();
        case "forget" -> x.forget();
        case "archive" -> x.archive(args[0], args[1]);
        case "replay" -> x.replay(args[0], args[1]);
        case "replayed" -> x.replayed(args[0], args[1]);
        case "proof" -> x.proof(args[0], args[1], args[2]);
        case "lay" -> x.lay(args[0], args[1]);
        case "proves" -> x.proves(args[0], args[1], args[2]);
        case "back" -> x.back(args[0]);
        case "row" -> x.row(args[0], args[1], args[2]);
        case "count" -> x.count(args[0]);
        case "clear" -> x.clear();
        default -> throw new IllegalStateException("no call " + name);
      };
    }

    String told() {
      StringBuilder text = new StringBuilder(name).append('(');
      for (int i = 0; i < args.length; i++) text.append(i == 0 ? "" : ", ").append(args[i]);
      return text.append(')').toString();
    }
  }

  // ---- scenes: the calls that lead to a state, and what may follow there

  private static final class Scene {
    final String name;
    final List<Call> calls;
    final List<List<Call>> tails = new ArrayList<>();
    final List<long[]> answers = new ArrayList<>();

    Scene(String name, String text) {
      this.name = name;
      calls = Call.all(text);
      if (calls.size() > MOST_CALLS - 20) throw new IllegalStateException(name + " leaves no calls to follow");
      for (long answer : answersOf(new HistoryRows(), calls)) {
        if (answer < NONE) throw new IllegalStateException(name + " has a refused call");
      }
      int height = made().count(0);
      int room = MOST_CALLS - calls.size() - 2;
      cutInto(asks(height), room);
      for (String deed : deeds(height)) {
        List<Call> tail = Call.all(deed);
        tails.add(tail.subList(0, Math.min(room, tail.size())));
      }
      for (List<Call> tail : tails) answers.add(answersOf(made(), tail));
    }

    HistoryRows made() {
      HistoryRows x = new HistoryRows();
      for (Call call : calls) call.on(x);
      return x;
    }

    private void cutInto(List<Call> asked, int room) {
      for (int from = 0; from < asked.size(); from += room) {
        tails.add(asked.subList(from, Math.min(asked.size(), from + room)));
      }
    }
  }

  private static long[] answersOf(HistoryRows x, List<Call> tail) {
    long[] answers = new long[tail.size()];
    for (int i = 0; i < answers.length; i++) answers[i] = tail.get(i).on(x);
    return answers;
  }

  private static final String COUNTS = "count(0) count(1) count(2) count(3) count(4) count(5) ";

  private static String each(String form, int from, int to) {
    StringBuilder text = new StringBuilder();
    for (int n = from; n <= to; n++) text.append(form.replace("#", "" + n)).append(' ');
    return text.toString();
  }

  /** All that can be asked of a state, at some of its heights. */
  private static List<Call> asks(int height) {
    StringBuilder text = new StringBuilder(COUNTS);
    text.append(each("now(#)", 0, 31)).append(each("pruned(#)", 0, height)).append(each("digest(#)", 0, height));
    text.append(each("archive(#, 0) archive(#, 1)", 0, 8));
    text.append(each("row(#, 0, 0) row(#, 0, 1) row(#, 1, 0)", 0, 31)).append(each("row(3, #, 0) row(3, #, 1)", 0, 4));
    text.append(each("proves(#, 7, " + height + ")", 0, 31));
    int[] some = {0, 1, 2, 3, 4, height - 1, height};
    for (int h : some) {
      if (h < 0 || h > height) continue;
      text.append(each("at(#, " + h + ")", 0, 31)).append(each("proof(3, " + h + ", #)", 0, 4));
      text.append(each("blame(3, " + h + ", #) blame(8, " + h + ", #) blame(9, " + h + ", #)", 0, 1));
      text.append(each("proves(3, #, " + h + ")", 0, 9));
      text.append(each("differs(#, " + h + ") difference(#, " + h + ", 0) difference(" + h + ", #, 1)", 0, 5));
      text.append(each("replay(#, " + h + ") replayed(#, " + h + ")", 0, 5));
    }
    text.append(each("first(3, #) first(8, #) first(9, #)", -1, 9)).append("first(3, 70) first(9, 90)");
    return Call.all(text.toString());
  }

  /** Runs that change a state, in each of the ways there are. */
  private static String[] deeds(int height) {
    int up = height + 1;
    String pruneAll = "rule(0) prune(" + height + ") ";
    return new String[] {
      "rule(9) rule(0) " + each("lay(#, 1)", 0, 4) + each("lay(#, 2)", 0, 4),
      "drop() " + each("now(#)", 0, 31) + COUNTS + "write(0, 3, 1) write(0, 3, 2)",
      "seal() " + COUNTS + each("at(#, " + up + ")", 0, 31) + "digest(" + up + ") replay(0, " + up + ") write(0, 1, 1)",
      "seal() " + each("blame(#, " + up + ", 0) blame(#, " + up + ", 1)", 0, 31) + "seal() seal()",
      "write(0, 5, 1) write(599, 5, 1) write(600, 5, 1) write(601, 5, 3) write(999, 5, 4) count(1) seal() " + COUNTS,
      each("write(999, 5, #)", 0, 61) + "count(1) now(5) seal() " + COUNTS,
      each("bring() count(2) count(3) count(4) count(5) at(3, 1) row(3, 1, 0) row(3, 0, 1)", 0, 9),
      "forget() " + COUNTS + "bring() back(1) back(" + height + ") " + COUNTS + each("now(#)", 0, 31),
      "prune(" + height + ") archive(0, 0) archive(0, 1) archive(1, 0) " + COUNTS + each("pruned(#)", 0, Math.min(30, height)),
      pruneAll + COUNTS + "bring() " + COUNTS + each("at(3, #)", 0, 5),
      "bring() back(0) " + COUNTS + "seal() digest(1) back(2) " + COUNTS,
      "forget() seal() " + each("blame(#, " + up + ", 0)", 0, 31) + each("row(#, 0, 1)", 0, 9) + COUNTS,
      pruneAll + "forget() seal() " + each("blame(#, " + up + ", 0)", 0, 31) + COUNTS,
      "write(999, 1, 13) seal() " + each("blame(#, " + up + ", 0)", 0, 31) + COUNTS,
      "forget() seal() " + COUNTS + "prune(" + height + ") archive(0, 0) bring() " + COUNTS,
      "back(2) " + COUNTS + each("row(3, #, 0)", 0, 3) + "write(0, 3, 9) seal() blame(3, 3, 0) digest(3)",
      "clear() " + COUNTS + "rule(0) lay(0, 0) digest(0) now(3) write(0, 3, 1) seal()",
    };
  }

  // ---- what is checked

  private static void tell(Scene scene, String call, String what) {
    wrong++;
    System.out.println(about + ": with " + scene.name + ", " + call + " " + what);
  }

  private static void taken(Scene scene, String text, long want) {
    Call call = Call.all(text).get(0);
    cases++;
    long got = call.on(scene.made());
    if (got != want) tell(scene, text, "answered " + got + ", due is " + want);
  }

  private static void refused(Scene scene, String text, int refusal) {
    asked(scene, text, Call.all(text).get(0).answersLong() ? refusal - FAR : refusal);
  }

  /** The answer is due, twice, and nothing has changed. */
  private static void asked(Scene scene, String text, long want) {
    taken(scene, text, want);
    Call call = Call.all(text).get(0);
    for (int t = 0; t < scene.tails.size(); t++) {
      HistoryRows x = scene.made();
      call.on(x);
      long again = call.on(x);
      if (again != want) tell(scene, text, "answered " + again + " when it was made again, due is " + want);
      List<Call> tail = scene.tails.get(t);
      long[] got = answersOf(x, tail);
      for (int i = 0; i < got.length; i++) {
        if (got[i] == scene.answers.get(t)[i]) continue;
        tell(scene, text, "has changed something: " + tail.get(i).told() + " after it answered " + got[i]
            + ", without it " + scene.answers.get(t)[i]);
        return;
      }
    }
  }

  // ---- the scenes

  /** Leaf 3 holds 0, 7, 7, 0, 9, 7 at heights 0 to 5; leaf 8 holds -1 from height 2 on. */
  private static final String HEIGHTS = "write(10, 3, 7) seal() write(20, 8, -1) seal() write(30, 3, 0) seal() "
      + "write(40, 3, 9) seal() write(50, 3, 7) seal() ";
  private static final String SETTINGS = "rule(2) lay(0, 11) lay(1, 12) lay(2, 13) lay(3, 14) lay(4, 15) ";
  private static final String OPEN = "write(500, 3, 70) write(600, 9, 90) ";

  private static String rows(int n) {
    StringBuilder text = new StringBuilder();
    for (int i = 0; i < n; i++) {
      int height = i / 32 + 1;
      text.append("write(").append(height).append(", ").append(i % 32).append(", ").append(height).append(") ");
      if (i % 32 == 31 || i == n - 1) text.append("seal() ");
    }
    return text.toString();
  }

  private static final Scene fresh = new Scene("nothing", "");
  private static final Scene plain = new Scene("five heights and two writes", HEIGHTS + SETTINGS + OPEN);
  private static final Scene spared = new Scene("heights 1 and 3 in an archive", HEIGHTS + SETTINGS + "prune(4) " + OPEN);
  private static final Scene forgot = new Scene("heights 1 and 3 forgotten", HEIGHTS + SETTINGS + "prune(4) forget() " + OPEN);
  private static final Scene bothPruned =
      new Scene("heights 1 and 3 forgotten, 0 and 2 in an archive", HEIGHTS + SETTINGS + "prune(4) forget() rule(0) prune(4) " + OPEN);
  private static final Scene steppedBack = new Scene("five heights and a step back to 2", HEIGHTS + SETTINGS + "back(2) " + OPEN);
  private static final Scene writes59 = new Scene("59 writes", HEIGHTS + each("write(600, 3, #)", 1, 59));
  private static final Scene writes60 = new Scene("60 writes", HEIGHTS + each("write(600, 3, #)", 1, 60));
  private static final Scene writes60Spared =
      new Scene("60 writes and an archive", HEIGHTS + SETTINGS + "prune(4) " + each("write(600, 3, #)", 1, 60));
  private static final Scene height199 = new Scene("height 199", HEIGHTS + each("seal()", 6, 199) + OPEN);
  private static final Scene height200 = new Scene("height 200", HEIGHTS + each("seal()", 6, 200) + SETTINGS + "prune(50) " + OPEN);
  private static final Scene height200Empty = new Scene("height 200 and no writes", HEIGHTS + each("seal()", 6, 200));
  private static final Scene rows399And1 = new Scene("399 rows and one more leaf written", rows(399) + "write(600, 0, 77)");
  private static final Scene rows399And2 =
      new Scene("399 rows and two more leaves written", rows(399) + "write(600, 0, 77) write(600, 1, 77)");
  private static final Scene rows368And32 =
      new Scene("368 rows and 32 leaves written", rows(368) + each("write(600, #, 77)", 0, 31));
  private static final Scene rows369And32 =
      new Scene("369 rows and 32 leaves written", rows(369) + each("write(600, #, 77)", 0, 31));
  private static final Scene rows400Idle =
      new Scene("400 rows and a write there and back", rows(400) + "write(500, 31, 1) write(600, 31, 12)");
  private static final Scene rows400And1 = new Scene("400 rows and one more leaf written", rows(400) + "write(600, 31, 77)");
  private static final Scene archivedRows =
      new Scene("368 archived rows of 400 and one more leaf written", rows(400) + "prune(13) write(600, 31, 77)");
  private static final Scene forgottenRows =
      new Scene("368 forgotten rows of 400 and one more leaf written", rows(400) + "prune(13) forget() write(600, 31, 77)");
  private static final Scene archives7 =
      new Scene("7 archives", HEIGHTS + each("seal()", 6, 10) + each("prune(#)", 1, 7) + OPEN);
  private static final Scene archives8 =
      new Scene("8 archives", HEIGHTS + each("seal()", 6, 10) + each("prune(#)", 1, 8) + OPEN);
  private static final Scene archives8Spared =
      new Scene("8 archives and a rule of 1", HEIGHTS + each("seal()", 6, 10) + each("prune(#)", 1, 8) + "rule(1) " + OPEN);

  public static void main(String[] args) {
    about = "write"; write();
    about = "seal"; seal();
    about = "leaves are 0 to 31"; leaves();
    about = "heights are 0 to HEIGHT"; heights();
    about = "numbers and their bounds"; numbers();
    about = "archives there are"; archives();
    about = "prune"; prune();
    about = "replay: to is below from"; replayDown();
    about = "pruned heights"; pruned();
    about = "back"; back();
    about = "none"; none();
    about = "the first refusal that fits"; order();
    about = "what only asks"; asksChangeNothing();
    System.out.println(wrong == 0 ? cases + " cases hold" : wrong + " of " + cases + " cases do not hold");
    if (wrong != 0) System.exit(1);
  }

  // ---- one boundary after the other

  private static void write() {
    taken(fresh, "write(0, 0, 1)", 1);
    refused(fresh, "write(-1, 0, 1)", OUTSIDE);
    taken(fresh, "write(999, 0, 1)", 1);
    refused(fresh, "write(1000, 0, 1)", OUTSIDE);
    refused(fresh, "write(low, 0, 1)", OUTSIDE);
    refused(fresh, "write(high, 0, 1)", OUTSIDE);
    for (Scene scene : new Scene[] {plain, spared}) {
      taken(scene, "write(600, 3, 70)", 3);
      refused(scene, "write(599, 3, 70)", STATE);
      refused(scene, "write(0, 3, 70)", STATE);
      taken(scene, "write(999, 3, 1)", 3);
      refused(scene, "write(1000, 3, 1)", OUTSIDE);
    }
    taken(writes59, "write(600, 3, 77)", 60);
    refused(writes60, "write(600, 3, 77)", ROOM);
    refused(writes60Spared, "write(600, 3, 77)", ROOM);
    refused(writes60, "write(999, 9, 77)", ROOM);
    refused(writes60, "write(600, 3, 60)", ROOM);
  }

  private static void seal() {
    taken(height199, "seal()", 200);
    refused(height200, "seal()", ROOM);
    refused(height200Empty, "seal()", ROOM);
    taken(rows399And1, "seal()", 14);
    refused(rows399And2, "seal()", ROOM);
    taken(rows368And32, "seal()", 13);
    refused(rows369And32, "seal()", ROOM);
    taken(rows400Idle, "seal()", 14);
    refused(rows400And1, "seal()", ROOM);
    refused(archivedRows, "seal()", ROOM);
    taken(forgottenRows, "seal()", 14);
  }

  /** Tries a call with # in a leaf's place at all that is no leaf. */
  private static void noLeaf(String form) {
    for (String leaf : new String[] {"-1", "32", "low", "high"}) {
      refused(plain, form.replace("#", leaf), UNKNOWN);
      refused(spared, form.replace("#", leaf), UNKNOWN);
    }
  }

  private static void leaves() {
    taken(plain, "write(600, 0, 5)", 3);
    taken(plain, "write(600, 31, 5)", 3);
    noLeaf("write(600, #, 5)");
    String[] longs = {"at(#, 5)", "now(#)"};
    for (String form : longs) {
      asked(plain, form.replace("#", "0"), 0);
      asked(plain, form.replace("#", "31"), 0);
      noLeaf(form);
    }
    String[] noRows = {"blame(#, 5, 0)", "blame(#, 5, 1)", "row(#, 0, 0)", "row(#, 0, 1)", "first(#, 5)"};
    for (String form : noRows) {
      asked(plain, form.replace("#", "0"), NONE);
      asked(plain, form.replace("#", "31"), NONE);
      noLeaf(form);
    }
    asked(plain, "proof(0, 0, 0)", 1);
    asked(plain, "proof(31, 0, 0)", 30);
    noLeaf("proof(#, 0, 0)");
    asked(plain, "proves(0, 5, 0)", 0);
    asked(plain, "proves(31, 5, 0)", 0);
    noLeaf("proves(#, 5, 0)");
  }

  /** Tries a call with # in a height's place below 0 and above the scene's height. */
  private static void noHeight(Scene scene, String form) {
    int above = scene.made().count(0) + 1;
    for (String height : new String[] {"-1", "low", "high", "" + above}) refused(scene, form.replace("#", height), UNKNOWN);
  }

  private static void heights() {
    asked(plain, "at(3, 0)", 0);
    asked(plain, "at(3, 5)", 7);
    asked(plain, "digest(0)", -1692335658L);
    asked(plain, "blame(3, 0, 1)", NONE);
    asked(plain, "blame(3, 5, 1)", 5);
    asked(plain, "differs(0, 5)", 2);
    asked(plain, "differs(5, 0)", 2);
    asked(plain, "difference(0, 5, 1)", 8);
    asked(plain, "difference(5, 0, 1)", 8);
    asked(plain, "pruned(0)", 0);
    asked(plain, "pruned(5)", 0);
    asked(plain, "replay(0, 0)", -1692335658L);
    asked(plain, "replayed(0, 5)", 5);
    asked(plain, "replayed(5, 5)", 0);
    asked(plain, "proof(2, 0, 0)", 3);
    asked(plain, "proof(2, 5, 0)", 7 * 31 + 3);
    asked(plain, "prune(0)", 0);
    taken(plain, "prune(5)", 2);
    taken(plain, "back(0)", 5);
    taken(plain, "back(5)", 0);
    taken(steppedBack, "back(2)", 0);
    asked(steppedBack, "at(3, 2)", 7);
    String[] forms = {"at(3, #)", "digest(#)", "blame(3, #, 0)", "differs(#, 0)", "differs(0, #)", "differs(#, #)",
      "difference(#, 0, 0)", "difference(0, #, 0)", "prune(#)", "pruned(#)", "replay(#, 0)", "replay(0, #)", "replay(#, #)",
      "replayed(#, 0)", "replayed(0, #)", "replayed(#, #)", "proof(3, #, 0)", "proves(3, 7, #)", "back(#)"};
    for (String form : forms) {
      noHeight(fresh, form);
      noHeight(plain, form);
      noHeight(spared, form);
      noHeight(steppedBack, form);
      refused(height200, form.replace("#", "201"), UNKNOWN);
      refused(steppedBack, form.replace("#", "5"), UNKNOWN);
    }
    asked(height200, "at(3, 200)", 7);
    asked(height200, "pruned(200)", 0);
    asked(height199, "pruned(199)", 0);
    refused(height199, "pruned(200)", UNKNOWN);
  }

  /** Tries a call with # in the place of a number whose bounds are 0 and most. */
  private static void noNumber(String form, int most) {
    for (String n : new String[] {"-1", "low", "high", "" + (most + 1)}) {
      refused(spared, form.replace("#", n), OUTSIDE);
      if (!form.startsWith("archive")) refused(plain, form.replace("#", n), OUTSIDE);
    }
  }

  private static void numbers() {
    asked(plain, "blame(3, 4, 0)", 40);
    asked(plain, "blame(3, 4, 1)", 4);
    noNumber("blame(3, 4, #)", 1);
    noNumber("blame(0, 0, #)", 1);
    taken(plain, "rule(0)", 2);
    taken(plain, "rule(100)", 2);
    noNumber("rule(#)", 100);
    asked(spared, "archive(0, 0)", 1);
    asked(spared, "archive(0, 1)", 2);
    noNumber("archive(0, #)", 1);
    asked(plain, "proof(3, 0, 0)", 2);
    asked(fresh, "proof(0, 0, 4)", 533668773L);
    noNumber("proof(3, 0, #)", 4);
    taken(plain, "lay(0, 0)", 11);
    taken(plain, "lay(4, 0)", 15);
    noNumber("lay(#, 0)", 4);
    asked(plain, "row(3, 1, 0)", 3);
    asked(plain, "row(3, 1, 1)", 30);
    noNumber("row(3, 1, #)", 1);
    noNumber("row(3, 9, #)", 1);
    int[] counts = {5, 2, 4, 1, 1, 2};
    for (int what = 0; what <= 5; what++) asked(spared, "count(" + what + ")", counts[what]);
    noNumber("count(#)", 5);
  }

  private static void archives() {
    String[] always = {"-1", "8", "low", "high"};
    for (String i : always) {
      for (int what = 0; what <= 1; what++) {
        refused(plain, "archive(" + i + ", " + what + ")", UNKNOWN);
        refused(spared, "archive(" + i + ", " + what + ")", UNKNOWN);
        refused(archives8, "archive(" + i + ", " + what + ")", UNKNOWN);
      }
    }
    refused(plain, "archive(0, 0)", UNKNOWN);
    asked(spared, "archive(0, 0)", 1);
    refused(spared, "archive(1, 0)", UNKNOWN);
    refused(forgot, "archive(0, 1)", UNKNOWN);
    asked(archives7, "archive(6, 1)", 1);
    refused(archives7, "archive(7, 1)", UNKNOWN);
    asked(archives8, "archive(7, 1)", 1);
    refused(fresh, "bring()", STATE);
    refused(plain, "bring()", STATE);
    refused(forgot, "bring()", STATE);
    taken(spared, "bring()", 1);
    taken(archives8, "bring()", 0);
    asked(plain, "forget()", 0);
    asked(forgot, "forget()", 0);
    taken(spared, "forget()", 1);
  }

  private static void prune() {
    taken(archives7, "prune(10)", 3);
    taken(archives7, "prune(8)", 1);
    refused(archives8, "prune(10)", ROOM);
    refused(archives8, "prune(9)", ROOM);
    asked(archives8, "prune(8)", 0);
    asked(archives8, "prune(0)", 0);
    asked(archives8Spared, "prune(10)", 0);
    asked(plain, "prune(0)", 0);
    asked(plain, "prune(1)", 0);
    taken(plain, "prune(2)", 1);
    asked(spared, "prune(4)", 0);
    asked(spared, "prune(5)", 0);
  }

  private static void replayDown() {
    asked(plain, "replayed(3, 3)", 0);
    asked(plain, "replayed(3, 4)", 1);
    String[] forms = {"replay(#)", "replayed(#)"};
    for (String form : forms) {
      for (String pair : new String[] {"4, 3", "1, 0", "5, 0", "5, 4"}) refused(plain, form.replace("#", pair), OUTSIDE);
    }
  }

  private static void pruned() {
    String[] forms = {"at(3, #)", "at(0, #)", "blame(3, #, 0)", "blame(3, #, 1)", "blame(0, #, 0)", "differs(#, #)",
      "differs(#, 5)", "differs(5, #)", "difference(#, 5, 0)", "difference(5, #, 0)", "difference(#, #, 0)",
      "replay(#, 5)", "replay(0, #)", "replay(#, #)", "replayed(#, 5)", "replayed(0, #)", "replayed(#, #)",
      "proof(3, #, 0)", "proof(0, #, 4)"};
    Scene[] scenes = {spared, forgot, bothPruned};
    for (Scene scene : scenes) {
      for (String form : forms) {
        refused(scene, form.replace("#", "1"), PRUNED);
        refused(scene, form.replace("#", "3"), PRUNED);
      }
      asked(scene, "pruned(1)", 1);
      asked(scene, "pruned(3)", 1);
      asked(scene, "pruned(4)", 0);
      asked(scene, "at(3, 4)", 9);
    }
    for (String form : forms) refused(bothPruned, form.replace("#", "2"), PRUNED);
    Scene[] kept0And2 = {spared, forgot};
    for (Scene scene : kept0And2) {
      asked(scene, "at(3, 0)", 0);
      asked(scene, "at(3, 2)", 7);
      asked(scene, "blame(3, 2, 1)", 1);
      asked(scene, "differs(2, 4)", 1);
      asked(scene, "difference(2, 4, 0)", 3);
      asked(scene, "replayed(0, 5)", 4);
      asked(scene, "proof(2, 4, 0)", 9 * 31 + 3);
    }
  }

  private static void back() {
    refused(spared, "back(0)", STATE);
    refused(spared, "back(5)", STATE);
    refused(archives8, "back(10)", STATE);
    refused(forgot, "back(1)", PRUNED);
    refused(forgot, "back(3)", PRUNED);
    taken(forgot, "back(0)", 4);
    taken(forgot, "back(2)", 2);
    taken(forgot, "back(4)", 1);
    taken(plain, "back(1)", 4);
  }

  private static void none() {
    for (String k : new String[] {"2", "-1", "32", "low", "high"}) asked(plain, "difference(0, 5, " + k + ")", NONE);
    asked(plain, "difference(0, 5, 0)", 3);
    asked(plain, "difference(3, 3, 0)", NONE);
    for (String k : new String[] {"4", "-1", "400", "low", "high"}) asked(plain, "row(3, " + k + ", 0)", NONE);
    asked(plain, "row(3, 3, 0)", 5);
    asked(spared, "row(3, 2, 0)", 5);
    asked(spared, "row(3, 3, 0)", NONE);
    asked(plain, "first(3, 70)", NONE);
    asked(plain, "first(3, 9)", 4);
    asked(plain, "blame(8, 1, 0)", NONE);
    asked(plain, "blame(8, 2, 0)", 20);
  }

  private static void order() {
    BiConsumer<String, Integer> inPlain = (call, refusal) -> refused(plain, call, refusal);
    BiConsumer<String, Integer> inSpared = (call, refusal) -> refused(spared, call, refusal);
    // write: UNKNOWN, OUTSIDE, STATE, ROOM
    inPlain.accept("write(-1, 32, 1)", UNKNOWN);
    inPlain.accept("write(1000, -1, 1)", UNKNOWN);
    inPlain.accept("write(599, 32, 1)", UNKNOWN);
    inPlain.accept("write(-1, 3, 1)", OUTSIDE);
    refused(writes60, "write(600, 32, 1)", UNKNOWN);
    refused(writes60, "write(599, -1, 1)", UNKNOWN);
    refused(writes60, "write(-1, -1, 1)", UNKNOWN);
    refused(writes60, "write(1000, 3, 1)", OUTSIDE);
    refused(writes60, "write(-1, 3, 1)", OUTSIDE);
    refused(writes60, "write(599, 3, 1)", STATE);
    // UNKNOWN by either of two, then OUTSIDE, then PRUNED
    inSpared.accept("at(32, 1)", UNKNOWN);
    inSpared.accept("at(-1, 6)", UNKNOWN);
    for (String what : new String[] {"-1", "2"}) {
      inSpared.accept("blame(32, 5, " + what + ")", UNKNOWN);
      inSpared.accept("blame(3, 6, " + what + ")", UNKNOWN);
      inSpared.accept("blame(32, 1, " + what + ")", UNKNOWN);
      inSpared.accept("blame(3, 1, " + what + ")", OUTSIDE);
      inSpared.accept("archive(1, " + what + ")", UNKNOWN);
      inSpared.accept("archive(-1, " + what + ")", UNKNOWN);
      inSpared.accept("row(32, 0, " + what + ")", UNKNOWN);
      inSpared.accept("row(-1, -1, " + what + ")", UNKNOWN);
    }
    inSpared.accept("blame(32, 1, 0)", UNKNOWN);
    for (String i : new String[] {"-1", "5"}) {
      inSpared.accept("proof(32, 5, " + i + ")", UNKNOWN);
      inSpared.accept("proof(3, 6, " + i + ")", UNKNOWN);
      inSpared.accept("proof(-1, 1, " + i + ")", UNKNOWN);
      inSpared.accept("proof(3, 1, " + i + ")", OUTSIDE);
    }
    inSpared.accept("proof(32, 1, 0)", UNKNOWN);
    for (String form : new String[] {"differs(#)", "difference(#, 0)", "difference(#, -1)"}) {
      inSpared.accept(form.replace("#", "1, 6"), UNKNOWN);
      inSpared.accept(form.replace("#", "6, 1"), UNKNOWN);
      inSpared.accept(form.replace("#", "-1, 3"), UNKNOWN);
      inSpared.accept(form.replace("#", "3, -1"), UNKNOWN);
    }
    inSpared.accept("difference(1, 2, -1)", PRUNED);
    inSpared.accept("difference(2, 1, high)", PRUNED);
    for (String form : new String[] {"replay(#)", "replayed(#)"}) {
      inSpared.accept(form.replace("#", "6, 0"), UNKNOWN);
      inSpared.accept(form.replace("#", "5, -1"), UNKNOWN);
      inSpared.accept(form.replace("#", "6, -1"), UNKNOWN);
      inSpared.accept(form.replace("#", "6, 1"), UNKNOWN);
      inSpared.accept(form.replace("#", "3, -1"), UNKNOWN);
      inSpared.accept(form.replace("#", "1, 6"), UNKNOWN);
      inSpared.accept(form.replace("#", "-1, 3"), UNKNOWN);
      inSpared.accept(form.replace("#", "3, 1"), OUTSIDE);
      inSpared.accept(form.replace("#", "3, 2"), OUTSIDE);
      inSpared.accept(form.replace("#", "2, 1"), OUTSIDE);
    }
    // prune: UNKNOWN, ROOM; back: UNKNOWN, STATE, PRUNED
    refused(archives8, "prune(11)", UNKNOWN);
    refused(archives8, "prune(-1)", UNKNOWN);
    inSpared.accept("back(6)", UNKNOWN);
    inSpared.accept("back(-1)", UNKNOWN);
    inSpared.accept("back(1)", STATE);
    refused(bothPruned, "back(1)", STATE);
    refused(bothPruned, "back(0)", STATE);
  }

  /** Digests and proofs are asked of pruned heights too; no question leaves a trace. */
  private static void asksChangeNothing() {
    Scene[] scenes = {plain, spared, forgot, bothPruned};
    for (Scene scene : scenes) {
      asked(scene, "digest(1)", plain.made().digest(1));
      asked(scene, "digest(3)", plain.made().digest(3));
      asked(scene, "proves(3, 7, 1)", 0);
      asked(scene, "now(3)", 70);
      asked(scene, "now(8)", -1);
      asked(scene, "replay(4, 5)", plain.made().digest(5));
      asked(scene, "replay(5, 5)", plain.made().digest(5));
      asked(scene, "differs(4, 5)", 1);
      asked(scene, "difference(4, 5, 0)", 3);
      asked(scene, "first(8, -1)", scene == bothPruned ? 4 : 2);
      asked(scene, "first(3, 7)", scene == bothPruned ? 5 : scene == plain ? 1 : 2);
    }
    asked(fresh, "drop()", 0);
    asked(fresh, "clear()", 0);
    asked(fresh, "back(0)", 0);
    asked(plain, "rule(2)", 2);
    asked(plain, "lay(4, 15)", 15);
  }
}
