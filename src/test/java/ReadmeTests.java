import java.io.IOException;
import java.lang.reflect.Method;
import java.lang.reflect.Modifier;
import java.nio.file.Files;
import java.nio.file.Path;
import java.util.Set;
import java.util.TreeSet;
import java.util.regex.Matcher;
import java.util.regex.Pattern;

/** README.md's examples answer as it says there, and its table names just the calls that there are. */
public final class ReadmeTests {
  private static final Pattern MADE = Pattern.compile("SailCourses sea = new SailCourses\\(\\);");
  private static final Pattern FED = Pattern.compile("for \\(char sign : \"(.*)\"\\.toCharArray\\(\\)\\) sea\\.feed\\(sign\\);");
  private static final Pattern ASKED = Pattern.compile("sea\\.(\\w+)\\((.*)\\); +// (-?\\d+)(?::.*)?");
  private static final Pattern TOLD = Pattern.compile("`(\\w+)\\(([^`]*)\\)`");
  private static final int FEWEST_EXAMPLES = 30;
  private static SailCourses sea = new SailCourses();
  private static int examples = 0;
  private static int wrong = 0;

  public static void main(String[] args) throws IOException, ReflectiveOperationException {
    Set<String> told = new TreeSet<>();
    boolean code = false;
    for (String line : Files.readAllLines(Path.of("README.md"))) {
      if (line.startsWith("```")) code = line.equals("```java");
      else if (code) follow(line);
      else if (line.startsWith("|")) callsIn(line, told);
    }
    check(examples >= FEWEST_EXAMPLES, "only " + examples + " examples were found");
    check(told.equals(calls()), "the table has " + told + ", the class " + calls());
    System.out.println(wrong == 0 ? "readme: all " + examples + " examples answer as it says" : "readme: " + wrong + " faults");
    if (wrong != 0) System.exit(1);
  }

  private static void check(boolean holds, String fault) {
    if (holds) return;
    wrong++;
    System.out.println(fault);
  }

  private static void follow(String line) throws ReflectiveOperationException {
    Matcher fed = FED.matcher(line);
    Matcher asked = ASKED.matcher(line);
    if (MADE.matcher(line).matches()) {
      sea = new SailCourses();
    } else if (fed.matches()) {
      for (char sign : fed.group(1).toCharArray()) sea.feed(sign);
    } else if (asked.matches()) {
      examples++;
      long got = answer(asked.group(1), asked.group(2).isEmpty() ? new String[0] : asked.group(2).split(", "));
      check(got == Long.parseLong(asked.group(3)), line + " -- it answered " + got);
    } else {
      check(false, "this example can't be followed: " + line);
    }
  }

  private static long answer(String name, String[] words) throws ReflectiveOperationException {
    Method method = named(name);
    Class<?>[] types = method.getParameterTypes();
    Object[] arguments = new Object[types.length];
    for (int i = 0; i < types.length; i++) {
      if (types[i] == boolean.class) arguments[i] = Boolean.valueOf(words[i]);
      else if (types[i] == long.class) arguments[i] = Long.valueOf(words[i]);
      else arguments[i] = Integer.valueOf(words[i]);
    }
    return ((Number) method.invoke(sea, arguments)).longValue();
  }

  private static Method named(String name) throws NoSuchMethodException {
    for (Method m : SailCourses.class.getDeclaredMethods()) {
      if (m.getName().equals(name) && Modifier.isPublic(m.getModifiers())) return m;
    }
    throw new NoSuchMethodException(name);
  }

  private static void callsIn(String line, Set<String> told) {
    Matcher call = TOLD.matcher(line);
    while (call.find()) {
      int arguments = call.group(2).isEmpty() ? 0 : call.group(2).split(", ").length;
      check(told.add(call.group(1) + " of " + arguments), call.group() + " stands there twice");
    }
  }

  private static Set<String> calls() {
    Set<String> calls = new TreeSet<>();
    for (Method m : SailCourses.class.getDeclaredMethods()) {
      if (Modifier.isPublic(m.getModifiers())) calls.add(m.getName() + " of " + m.getParameterCount());
    }
    return calls;
  }
}
