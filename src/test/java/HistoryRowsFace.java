import java.lang.reflect.Constructor;
import java.lang.reflect.Field;
import java.lang.reflect.Method;
import java.lang.reflect.Modifier;
import java.nio.file.Files;
import java.nio.file.Path;
import java.util.HashSet;
import java.util.Set;
import java.util.TreeSet;
import java.util.regex.Matcher;
import java.util.regex.Pattern;

// The document's face and those rules of LANGUAGE.md that can be read off the class or its text.
public final class HistoryRowsFace {
  private static int wrong = 0;

  private static final String[] FACE = {
    "int write(int,int,int)", "int seal()", "int drop()", "long at(int,int)", "long now(int)", "long digest(int)",
    "int blame(int,int,int)", "int first(int,int)", "int differs(int,int)", "int difference(int,int,int)",
    "int rule(int)", "int prune(int)", "int pruned(int)", "int bring()", "int forget()", "int archive(int,int)",
    "long replay(int,int)", "int replayed(int,int)", "long proof(int,int,int)", "int lay(int,int)",
    "int proves(int,int,int)", "int back(int)", "int row(int,int,int)", "int count(int)", "int clear()",
  };

  private static void check(boolean holds, String what) {
    if (holds) return;
    wrong++;
    System.out.println("not so: " + what);
  }

  private static String shape(Method m) {
    StringBuilder text = new StringBuilder(m.getReturnType().getName()).append(' ').append(m.getName()).append('(');
    String comma = "";
    for (Class<?> type : m.getParameterTypes()) { text.append(comma).append(type.getName()); comma = ","; }
    return text.append(')').toString();
  }

  public static void main(String[] args) throws Exception {
    Class<?> face = HistoryRows.class;
    check(Modifier.isPublic(face.getModifiers()) && Modifier.isFinal(face.getModifiers()), "the class is public and final");
    methods(face);
    constants(face);
    for (Constructor<?> c : face.getDeclaredConstructors()) {
      check(Modifier.isPublic(c.getModifiers()) && c.getParameterCount() == 0, "the one constructor takes nothing");
    }
    for (Class<?> inside : face.getDeclaredClasses()) {
      check(Modifier.isStatic(inside.getModifiers()), inside.getName() + " is static");
    }
    check(face.getDeclaredClasses().length < 12, "twelve classes at most");
    text();
    System.out.println(wrong == 0 ? "face and text are as told" : wrong + " are not so");
    if (wrong != 0) System.exit(1);
  }

  private static void methods(Class<?> face) {
    Set<String> seen = new TreeSet<>();
    Set<String> names = new HashSet<>();
    for (Method m : face.getDeclaredMethods()) {
      if (!Modifier.isPublic(m.getModifiers())) continue;
      check(!Modifier.isStatic(m.getModifiers()), m.getName() + " is of the object");
      seen.add(shape(m));
      names.add(m.getName());
    }
    check(seen.equals(new TreeSet<>(Set.of(FACE))), "the public methods are those of the document, but: " + seen);
    for (Method m : face.getDeclaredMethods()) {
      if (Modifier.isPublic(m.getModifiers())) continue;
      check(Modifier.isPrivate(m.getModifiers()), m.getName() + " is private");
      check(!names.contains(m.getName()), m.getName() + " bears no public name");
    }
  }

  private static void constants(Class<?> face) throws Exception {
    String[] names = {"NONE", "UNKNOWN", "OUTSIDE", "STATE", "PRUNED", "ROOM"};
    int[] values = {-1, -101, -102, -103, -104, -105};
    Set<String> due = new TreeSet<>(Set.of(names));
    for (int i = 0; i < names.length; i++) {
      Field f = face.getField(names[i]);
      check(f.getType() == int.class && Modifier.isStatic(f.getModifiers()) && Modifier.isFinal(f.getModifiers()),
          names[i] + " is a constant of int");
      check(f.getInt(null) == values[i], names[i] + " is " + values[i]);
    }
    for (Field f : face.getDeclaredFields()) {
      check(due.contains(f.getName()) || Modifier.isPrivate(f.getModifiers()), f.getName() + " is private");
    }
  }

  /** Rules 4, 6 and 12: no word of another part of Java, and nothing is made but with the object. */
  private static void text() throws Exception {
    String source = Files.readString(Path.of("src/main/java/HistoryRows.java"));
    String code = source.replaceAll("(?s)/\\*.*?\\*/", "").replaceAll("//[^\n]*", "");
    Matcher word = Pattern.compile("\\b(throw|throws|try|catch|finally|synchronized|assert|package|volatile|transient|native"
        + "|double|float|Object|Exception|Thread|Random|Exact|nanoTime|currentTimeMillis|lambda)\\b|->|::|@").matcher(code);
    while (word.find()) check(false, "the text is without " + word.group());
    for (String line : code.split("\n")) {
      if (line.startsWith("import ")) check(line.equals("import java.util.Arrays;"), "no import but Arrays: " + line);
      if (line.contains("new ")) check(line.matches("\\s*(private )?final \\S+ \\w+ = new .*"), "made with the object: " + line.trim());
    }
  }
}
