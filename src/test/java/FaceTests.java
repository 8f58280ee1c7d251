import java.io.IOException;
import java.lang.reflect.Constructor;
import java.lang.reflect.Field;
import java.lang.reflect.Method;
import java.lang.reflect.Modifier;
import java.nio.file.Files;
import java.nio.file.Path;
import java.util.List;
import java.util.Set;
import java.util.TreeSet;
import java.util.regex.Matcher;
import java.util.regex.Pattern;

/** The class shows the document's face and nothing else, and keeps to what ../shared/LANGUAGE.md leaves. */
public final class FaceTests {
  private static final String[] FACE = {
    "int wind(int,int,int,int)", "int current(int,int,int)", "int table(int,int,int)", "int land(int,boolean)",
    "int start(int,int,int)", "int loss(int,int)", "int steer(int)", "int feed(int)", "int read()",
    "int of(int,int,int)", "int speed(int,int)", "int told(int)", "int pace(int,int,int)",
    "int leg(int,int,int,int,int)", "int least(int,int)", "int last(int,int)", "int course(int,int)",
    "long reckon(int,int)", "long meanPace(int)", "int see(int,int)", "int fits(int,int,int)",
    "long odds(int,int,int,int,int)", "long mean(int)", "int event(int,int)", "int after(int)",
    "int book(int,int)", "int looked()", "int judge(int,int)", "int image()", "int undo()", "int count(int)",
    "int tape(int,int,int)", "int item(int,int,long)", "long peek(int,int)", "int shift(int,int,int,int,int)"};
  private static final String[] FORBIDDEN = {
    "finally", "synchronized", "assert", "Object", "Double.", "Float.", "System.out", "System.nano", "System.current",
    "System.getenv", "System.exit", "Thread", "::", "Random", "hashCode", "Exact(", "static {", "ArrayIndexOutOfBoundsException",
    "NullPointerException", "ClassCastException", "NegativeArraySizeException", "ArrayStoreException", "Throwable"};
  private static final Set<String> IMPORTS = Set.of("Arrays", "ArrayList", "List", "Iterator", "NoSuchElementException");
  /** Of these classes of the library no other static function stands in LANGUAGE.md, or is like those that do. */
  private static final Pattern LIBRARY = Pattern.compile("\\b(System|Arrays|Math|Long|Integer|List|String)\\.(\\w+)");
  private static final Set<String> ALLOWED = Set.of("System.arraycopy", "Arrays.copyOf", "Arrays.copyOfRange", "Arrays.fill",
      "Math.max", "Math.min", "Math.abs", "Math.floorDiv", "Math.floorMod", "Long.compare", "Long.bitCount", "Long.max", "Long.min",
      "Long.MIN_VALUE", "Long.MAX_VALUE", "Integer.compare", "Integer.bitCount", "Integer.max", "Integer.min",
      "Integer.MIN_VALUE", "Integer.MAX_VALUE", "List.of");
  private static final Set<Class<?>> CONSTANTS = Set.of(int.class, long.class, boolean.class, char.class, String.class,
      int[].class, long[].class, char[].class, byte[].class);
  private static final int LONGEST_METHOD = 60;
  private static int wrong = 0;

  public static void main(String[] args) throws IOException {
    Set<String> due = new TreeSet<>();
    for (String method : FACE) due.add("public " + method);
    for (String name : new String[] {"NONE", "BAD", "STATE", "FULL"}) due.add("public static final int " + name);
    due.add("public static final long NO");
    due.add("public SailCourses()");
    same(due, shown());
    check(Modifier.isFinal(SailCourses.class.getModifiers()), "the class is not final");
    insideClasses();
    source();
    System.out.println(wrong == 0 ? "face: as due" : "face: " + wrong + " faults");
    if (wrong != 0) System.exit(1);
  }

  private static void check(boolean holds, String fault) {
    if (holds) return;
    wrong++;
    System.out.println(fault);
  }

  private static void same(Set<String> due, Set<String> shown) {
    for (String one : due) check(shown.contains(one), "not shown: " + one);
    for (String one : shown) check(due.contains(one), "not in the document: " + one);
  }

  private static Set<String> shown() {
    Set<String> shown = new TreeSet<>();
    for (Field f : SailCourses.class.getDeclaredFields()) {
      if (!Modifier.isPrivate(f.getModifiers()) && !f.isSynthetic()) shown.add(Modifier.toString(f.getModifiers()) + " " + f.getType() + " " + f.getName());
    }
    for (Method m : SailCourses.class.getDeclaredMethods()) {
      check(!m.getName().startsWith("lambda$"), "a lambda: " + m);
      if (Modifier.isPrivate(m.getModifiers()) || m.isSynthetic()) continue;
      shown.add(Modifier.toString(m.getModifiers()) + " " + m.getReturnType() + " " + m.getName() + types(m.getParameterTypes()));
    }
    for (Constructor<?> c : SailCourses.class.getDeclaredConstructors()) {
      shown.add(Modifier.toString(c.getModifiers()) + " SailCourses" + types(c.getParameterTypes()));
    }
    return shown;
  }

  private static String types(Class<?>[] types) {
    StringBuilder s = new StringBuilder("(");
    for (Class<?> type : types) s.append(s.length() > 1 ? "," : "").append(type.getName());
    return s.append(")").toString();
  }

  private static void insideClasses() {
    Set<String> names = new TreeSet<>();
    for (String method : FACE) names.add(method.substring(method.indexOf(' ') + 1, method.indexOf('(')));
    Class<?>[] inside = SailCourses.class.getDeclaredClasses();
    check(inside.length <= 11, "more classes than some twelve");
    for (Class<?> c : inside) {
      check(!Modifier.isPublic(c.getModifiers()) && Modifier.isStatic(c.getModifiers()), c + " is public or not static");
      check(!c.isLocalClass(), c + " is local");
      for (Method m : c.getDeclaredMethods()) check(!m.getName().startsWith("lambda$"), "a lambda: " + m);
      for (Method m : c.getDeclaredMethods()) check(!names.contains(m.getName()), m + " bears a name of the face");
      fields(c);
    }
    fields(SailCourses.class);
    for (Method m : SailCourses.class.getDeclaredMethods()) {
      check(!Modifier.isPrivate(m.getModifiers()) || !names.contains(m.getName()), m + " bears a name of the face");
      check(m.getParameterCount() <= 7, m + " takes more than seven parameters");
    }
  }

  private static void fields(Class<?> c) {
    int fields = 0;
    for (Field f : c.getDeclaredFields()) {
      if (!Modifier.isStatic(f.getModifiers())) {
        fields++;
        continue;
      }
      check(Modifier.isFinal(f.getModifiers()), f + " is static and not final");
      check(CONSTANTS.contains(f.getType()), f + " is static and no constant of a kind that may be");
    }
    check(fields <= 20, c + " has more than some twenty fields");
  }

  /** A body ends by the first line with nothing but a brace, as far in as the line that opens it. */
  private static void methodLengths(List<String> lines) {
    Pattern opening = Pattern.compile("( {4}| {8})[^ *].*\\) \\{");
    for (int at = 0; at < lines.size(); at++) {
      Matcher m = opening.matcher(lines.get(at));
      if (!m.matches()) continue;
      int end = at;
      while (end < lines.size() && !lines.get(end).equals(m.group(1) + "}")) end++;
      check(end - at < LONGEST_METHOD, "longer than some sixty lines: " + lines.get(at).trim());
    }
  }

  private static void source() throws IOException {
    StringBuilder code = new StringBuilder();
    List<String> lines = Files.readAllLines(Path.of("src/main/java/SailCourses.java"));
    methodLengths(lines);
    for (String line : lines) {
      check(line.chars().allMatch(sign -> sign < 128), "a sign beyond 127: " + line);
      String bare = line.trim();
      if (bare.startsWith("*") || bare.startsWith("/")) continue;
      boolean allowed = bare.startsWith("import java.util.") && IMPORTS.contains(bare.substring(17, bare.length() - 1));
      check(!bare.startsWith("import ") || allowed, "another import: " + bare);
      check(!bare.startsWith("package "), "a package line");
      code.append(bare.replaceAll("//.*", "")).append('\n');
    }
    String text = code.toString();
    Matcher library = LIBRARY.matcher(text);
    while (library.find()) check(ALLOWED.contains(library.group()), "the source has " + library.group());
    for (String word : FORBIDDEN) {
      boolean letters = Character.isLetter(word.charAt(0)) && Character.isLetter(word.charAt(word.length() - 1));
      boolean there = letters ? text.matches("(?s).*\\b" + word + "\\b.*") : text.contains(word);
      check(!there, "the source has " + word);
    }
  }
}
