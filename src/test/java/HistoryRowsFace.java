import java.lang.reflect.Constructor;
import java.lang.reflect.Field;
import java.lang.reflect.Method;
import java.lang.reflect.Modifier;
import java.nio.file.Files;
import java.nio.file.Path;
import java.util.HashSet;
import java.util.Set;
import java.util.TreeSet;
import java.util.regex.Matcher;
import java.util.regex.Pattern;

// The document's face and those rules of LANGUAGE.md that can be read off the class or its text.
public final class HistoryRowsFace {
  private static int wrong = 0;

  private static void check(boolean holds, String what) {
    if (holds) return;
    wrong++;
    System.out.println("not so: " + what);
  }

  /** The Java that the document shows as the public face. */
  private static String documentFace() throws Exception {
    Matcher block = Pattern.compile("(?s)```java\n(.*?)```").matcher(Files.readString(Path.of("../shared/DOC.md")));
    check(block.find(), "the document shows the face");
    return block.group(1);
  }

  /** Its methods, in the form of shape. */
  private static Set<String> methodsOf(String documentFace) {
    Set<String> due = new TreeSet<>();
    Matcher m = Pattern.compile("public (\\w+) (\\w+)\\(([^)]*)\\);").matcher(documentFace);
    while (m.find()) {
      String types = m.group(3).replaceAll("(\\w+) \\w+", "$1").replace(" ", "");
      due.add(m.group(1) + " " + m.group(2) + "(" + types + ")");
    }
    check(due.size() == 25, "the document has 25 methods, but: " + due);
    return due;
  }

  /** Its constants, as NAME = number. */
  private static Set<String> constantsOf(String documentFace) {
    Set<String> due = new TreeSet<>();
    Matcher m = Pattern.compile("([A-Z]+) = (-?\\d+)").matcher(documentFace);
    while (m.find()) due.add(m.group());
    check(due.size() == 6, "the document has 6 constants, but: " + due);
    return due;
  }

  private static String shape(Method m) {
    StringBuilder text = new StringBuilder(m.getReturnType().getName()).append(' ').append(m.getName()).append('(');
    String comma = "";
    for (Class<?> type : m.getParameterTypes()) { text.append(comma).append(type.getName()); comma = ","; }
    return text.append(')').toString();
  }

  public static void main(String[] args) throws Exception {
    Class<?> face = HistoryRows.class;
    check(Modifier.isPublic(face.getModifiers()) && Modifier.isFinal(face.getModifiers()), "the class is public and final");
    String due = documentFace();
    methods(face, methodsOf(due));
    constants(face, constantsOf(due));
    for (Constructor<?> c : face.getDeclaredConstructors()) {
      check(Modifier.isPublic(c.getModifiers()) && c.getParameterCount() == 0, "the one constructor takes nothing");
    }
    sizes(face);
    for (Class<?> inside : face.getDeclaredClasses()) {
      check(Modifier.isStatic(inside.getModifiers()), inside.getName() + " is static");
      check((inside.getModifiers() & (Modifier.PUBLIC | Modifier.PROTECTED)) == 0, inside.getName() + " is not public");
      sizes(inside);
    }
    check(face.getDeclaredClasses().length < 12, "twelve classes at most");
    text();
    System.out.println(wrong == 0 ? "face and text are as told" : wrong + " are not so");
    if (wrong != 0) System.exit(1);
  }

  /** Rules 5 and 11: static fields are constants; twenty fields and seven parameters at most. */
  private static void sizes(Class<?> some) {
    int fields = 0;
    for (Field f : some.getDeclaredFields()) {
      if (!Modifier.isStatic(f.getModifiers())) { fields++; continue; }
      check(Modifier.isFinal(f.getModifiers()) && f.getType().isPrimitive(), f.getName() + " is a constant");
    }
    check(fields <= 20, some.getName() + " has " + fields + " fields");
    for (Method m : some.getDeclaredMethods()) check(m.getParameterCount() <= 7, m.getName() + " takes seven parameters at most");
  }

  private static void methods(Class<?> face, Set<String> due) {
    Set<String> seen = new TreeSet<>();
    Set<String> names = new HashSet<>();
    for (Method m : face.getDeclaredMethods()) {
      if (!Modifier.isPublic(m.getModifiers())) continue;
      check(!Modifier.isStatic(m.getModifiers()), m.getName() + " is of the object");
      seen.add(shape(m));
      names.add(m.getName());
    }
    check(seen.equals(due), "the public methods are those of the document, but: " + seen);
    for (Method m : face.getDeclaredMethods()) {
      if (Modifier.isPublic(m.getModifiers())) continue;
      check(Modifier.isPrivate(m.getModifiers()), m.getName() + " is private");
      check(!names.contains(m.getName()), m.getName() + " bears no public name");
    }
  }

  private static void constants(Class<?> face, Set<String> due) throws Exception {
    Set<String> seen = new TreeSet<>();
    for (Field f : face.getDeclaredFields()) {
      if (Modifier.isPrivate(f.getModifiers())) continue;
      check(f.getType() == int.class && Modifier.isPublic(f.getModifiers()) && Modifier.isStatic(f.getModifiers())
          && Modifier.isFinal(f.getModifiers()), f.getName() + " is a public constant of int");
      seen.add(f.getName() + " = " + f.getInt(null));
    }
    check(seen.equals(due), "the constants are those of the document, but: " + seen);
  }

  /** Rule 11: methods stay short. A method ends at a brace that stands as far in as its head. */
  private static void lengths(String code) {
    String[] lines = code.split("\n");
    for (int from = 0; from < lines.length; from++) {
      if (!lines[from].matches("( {4}| {8})\\w.*\\) \\{")) continue;
      String end = lines[from].replaceAll("\\S.*", "") + "}";
      int to = from;
      while (to < lines.length && !lines[to].equals(end)) to++;
      check(to - from < 60, "this method is short: " + lines[from].trim());
    }
  }

  /** Rules 4, 6 and 12: no word of another part of Java, and nothing is made but with the object. */
  private static void text() throws Exception {
    String source = Files.readString(Path.of("src/main/java/HistoryRows.java"));
    String code = source.replaceAll("(?s)/\\*.*?\\*/", "").replaceAll("//[^\n]*", "");
    Matcher word = Pattern.compile("\\b(throw|throws|try|catch|finally|synchronized|assert|package|volatile|transient|native"
        + "|double|float|Object|Exception|Thread|Random|Exact|nanoTime|currentTimeMillis|lambda)\\b|->|::|@").matcher(code);
    while (word.find()) check(false, "the text is without " + word.group());
    lengths(code);
    for (String line : code.split("\n")) {
      if (line.startsWith("import ")) check(line.equals("import java.util.Arrays;"), "no import but Arrays: " + line);
      if (line.contains("new ")) check(line.matches("\\s*(private )?final \\S+ \\w+ = new .*"), "made with the object: " + line.trim());
    }
  }
}
