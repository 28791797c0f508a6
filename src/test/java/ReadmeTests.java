import java.io.IOException;
import java.lang.reflect.Method;
import java.lang.reflect.Modifier;
import java.nio.charset.StandardCharsets;
import java.nio.file.Files;
import java.nio.file.Path;
import java.util.Arrays;
import java.util.Map;
import java.util.TreeMap;
import java.util.regex.Matcher;
import java.util.regex.Pattern;

/** README.md shows what is so: each line of its examples, and the table of all calls. */
public final class ReadmeTests {
  private static final Pattern EXAMPLES = Pattern.compile("(?s)```java\n(.*?)```");
  private static final String MADE = "SiphonsBench x = new SiphonsBench();";
  private static final Pattern TOLD = Pattern.compile("\"(.*)\"\\.chars\\(\\)\\.forEach\\(x::letter\\);");
  private static final Pattern ASKED =
      Pattern.compile("x\\.([A-Za-z]+)\\(([-0-9, ]*)\\); *// (-?\\d+)(:.*)?");
  private static final Pattern NAMED = Pattern.compile("`([A-Za-z]+)` (\\d+)");
  private static final Pattern PROMISE = Pattern.compile("## Promise (\\d+): ([A-Za-z]+)\n");

  private static final Map<String, Method> FACE = face();
  private static int kept = 0;
  private static int broken = 0;

  private static Map<String, Method> face() {
    Map<String, Method> face = new TreeMap<>();
    for (Method m : SiphonsBench.class.getDeclaredMethods()) {
      if (Modifier.isPublic(m.getModifiers())) {
        face.put(m.getName(), m);
      }
    }
    return face;
  }

  private static void holds(String what, boolean is) {
    if (is) {
      kept++;
    } else {
      broken++;
      System.out.println("README.md: " + what);
    }
  }

  private static long answer(SiphonsBench x, String name, String told) {
    Object[] args = Arrays.stream(told.split(",")).map(String::trim).filter(s -> !s.isEmpty())
        .map(Integer::parseInt).toArray();
    try {
      return ((Number) FACE.get(name).invoke(x, args)).longValue();
    } catch (ReflectiveOperationException e) {
      throw new IllegalStateException(name + "(" + told + "): " + e, e);
    }
  }

  /** One example, on an object of its own; a line of any other form is a fault. */
  private static void example(String text) {
    SiphonsBench x = null;
    for (String line : text.split("\n")) {
      Matcher told = TOLD.matcher(line);
      Matcher asked = ASKED.matcher(line);
      if (line.equals(MADE)) {
        x = new SiphonsBench();
      } else if (x != null && told.matches()) {
        told.group(1).chars().forEach(x::letter);
      } else if (x != null && asked.matches() && FACE.containsKey(asked.group(1))) {
        long got = answer(x, asked.group(1), asked.group(2));
        holds(line + " answered " + got, got == Long.parseLong(asked.group(3)));
      } else {
        holds("what is this line? " + line, false);
      }
    }
  }

  private static void examples(String readme) {
    int found = 0;
    Matcher m = EXAMPLES.matcher(readme);
    while (m.find()) {
      example(m.group(1));
      found++;
    }
    holds("there are examples", found > 0);
  }

  private static void table(String readme, String document) {
    Map<String, String> named = new TreeMap<>();
    for (String line : readme.split("\n")) {
      Matcher m = NAMED.matcher(line);
      while (line.startsWith("| `") && m.find()) {
        holds(m.group(1) + " stands twice in the table", named.put(m.group(1), m.group(2)) == null);
      }
    }
    holds("the table has " + named.keySet(), named.keySet().equals(FACE.keySet()));
    Matcher m = PROMISE.matcher(document);
    while (m.find()) {
      String number = m.group(1);
      holds("promise " + number + " is " + m.group(2),
          number.equals("1") || number.equals(named.get(m.group(2))));
    }
  }

  /** What .ci/run runs, README.md names. */
  private static void tests(String readme) {
    String[] files = Path.of("src/test/java").toFile().list();
    for (String file : files == null ? new String[0] : files) {
      String name = file.replace(".java", "");
      holds("nothing is said of " + file, readme.contains("`" + name + "`"));
    }
  }

  public static void main(String[] args) throws IOException {
    String readme = Files.readString(Path.of("README.md"), StandardCharsets.UTF_8);
    examples(readme);
    Path document = Path.of("../shared/DOC.md");
    table(readme, Files.exists(document) ? Files.readString(document, StandardCharsets.UTF_8) : "");
    tests(readme);
    System.out.println("ReadmeTests: " + kept + " hold, " + broken + " do not");
    if (broken != 0) {
      System.exit(1);
    }
  }
}
