import java.io.IOException;
import java.lang.management.ManagementFactory;
import java.lang.reflect.Constructor;
import java.lang.reflect.Field;
import java.lang.reflect.Method;
import java.lang.reflect.Modifier;
import java.nio.charset.StandardCharsets;
import java.nio.file.Files;
import java.nio.file.Path;
import java.util.ArrayList;
import java.util.Arrays;
import java.util.List;
import java.util.Map;
import java.util.Set;
import java.util.TreeMap;
import java.util.TreeSet;

/** What LANGUAGE.md asks of the class, as far as its face, its class files and its source tell it. */
public final class RulesTests {
  private static final String[] FACE = {
    "int letter(int)", "int tells()", "int vessel(int,int,int)", "int pipe(int,int,int,int,int)",
    "int kind(int,int,int)", "int rate(int,int)", "int water(int,int)", "int tap(int,int)",
    "int passes(int)", "int of(int,int)", "int ofPipe(int,int)", "long level(int,int)",
    "long goes(int)", "int then(int,int,int)", "int over(int)", "int dry(int)", "int starts(int)",
    "int turns(int,int)", "int round(int)", "int least(int,int,int)",
    "int tapBest(int,int,int,int)", "int matters(int)", "int order(int)", "int meets(int,int)",
    "long shown(int)", "long work(int)", "long leak(int,int,int)", "int all()", "int judge(int)",
    "int whatIs(int,int,int)", "int lots(int,int,int)", "int list(int,int)",
    "int put(int,int,int)", "int lays(int,int)", "int rack(int,int,int)", "int racks(int,int,int)",
    "int racked(int,int)", "int like(int,int)", "int image()", "int on()", "int count(int)"
  };

  /** The part of the rules' library that the class uses. */
  private static final Set<String> LIBRARY = Set.of(
      "java/lang/Object.<init>", "java/lang/String.isEmpty", "java/lang/String.length",
      "java/lang/String.charAt", "java/lang/Math.min", "java/lang/Math.max", "java/lang/Math.abs",
      "java/lang/Integer.bitCount");

  private static int passed = 0;
  private static int failed = 0;

  private static void holds(String rule, boolean is) {
    if (is) {
      passed++;
    } else {
      failed++;
      System.out.println("not kept: " + rule);
    }
  }

  private static String told(Method m) {
    StringBuilder s = new StringBuilder(m.getReturnType() + " " + m.getName() + "(");
    for (Class<?> p : m.getParameterTypes()) {
      s.append(s.charAt(s.length() - 1) == '(' ? "" : ",").append(p);
    }
    return s.append(')').toString();
  }

  private static void face() {
    Class<?> c = SiphonsBench.class;
    Set<String> publics = new TreeSet<>();
    Set<String> names = new TreeSet<>();
    for (Method m : c.getDeclaredMethods()) {
      if (Modifier.isPublic(m.getModifiers())) {
        publics.add(told(m));
        names.add(m.getName());
      }
    }
    holds("1: the public methods are the document's", publics.equals(new TreeSet<>(List.of(FACE))));
    for (Method m : c.getDeclaredMethods()) {
      boolean isPublic = Modifier.isPublic(m.getModifiers());
      holds("1: public or private " + m, isPublic || Modifier.isPrivate(m.getModifiers()));
      holds("1: a name of its own " + m, isPublic || !names.contains(m.getName()));
      holds("11: at most seven parameters " + m, m.getParameterCount() <= 7);
    }
    for (Field f : c.getDeclaredFields()) {
      holds("1: private " + f, Modifier.isPrivate(f.getModifiers()));
      boolean isStatic = Modifier.isStatic(f.getModifiers());
      holds("5: final " + f, !isStatic || Modifier.isFinal(f.getModifiers()));
    }
    Constructor<?>[] made = c.getDeclaredConstructors();
    holds("1: one constructor", made.length == 1 && made[0].getParameterCount() == 0);
    holds("1: it is public", Modifier.isPublic(made[0].getModifiers()));
    holds("1: the class is public and final",
        Modifier.isPublic(c.getModifiers()) && Modifier.isFinal(c.getModifiers()));
    holds("11: at most twelve classes", c.getDeclaredClasses().length < 12);
    for (Class<?> inside : c.getDeclaredClasses()) {
      int is = inside.getModifiers();
      holds("1: " + inside + " is static, and not public",
          Modifier.isStatic(is) && !Modifier.isPublic(is) && !Modifier.isProtected(is));
      holds("11: at most twenty fields in " + inside, inside.getDeclaredFields().length <= 20);
      for (Method m : inside.getDeclaredMethods()) {
        holds("1: a name of its own " + m, !names.contains(m.getName()));
      }
    }
  }

  private static void classFiles() throws IOException {
    Map<String, Set<String>> calls = new TreeMap<>();
    List<String> names = new ArrayList<>(List.of("SiphonsBench"));
    for (Class<?> inside : SiphonsBench.class.getDeclaredClasses()) {
      names.add(inside.getName());
    }
    for (String name : names) {
      ClassFile file = new ClassFile(name);
      holds("3: nothing dynamic in " + name, !file.dynamic);
      for (String maker : file.makers) {
        holds("12: made in a constructor: " + maker,
            maker.endsWith(".<init>") || maker.endsWith(".<clinit>"));
      }
      calls.putAll(file.calls);
    }
    for (String method : calls.keySet()) {
      for (String called : calls.get(method)) {
        holds("4: " + called, calls.containsKey(called) || LIBRARY.contains(called));
      }
      int depth = depth(calls, method, 20);
      holds("8, 11: no recursion, at most eight deep: " + method + ": " + depth, depth <= 8);
    }
    holds("all methods were seen", calls.containsKey("SiphonsBench$Bench.passStep"));
  }

  /** How many calls stand open at most, this one and those of the library counted too. */
  private static int depth(Map<String, Set<String>> calls, String method, int most) {
    int deepest = 0;
    if (most > 0) {
      for (String called : calls.getOrDefault(method, Set.of())) {
        deepest = Math.max(deepest, depth(calls, called, most - 1));
      }
    }
    return deepest + 1;
  }

  private static void source() throws IOException {
    Path path = Path.of("src/main/java/SiphonsBench.java");
    String source = Files.readString(path, StandardCharsets.ISO_8859_1);
    String[] banned = {
      "->", "::", "catch", "finally", "synchronized", "assert ", "throw", "import ", "package ",
      "System.", "instanceof", "while", "new int[n"
    };
    String code = source.replaceAll("(?s)/\\*.*?\\*/", "").replaceAll("//[^\n]*", "");
    for (String word : banned) {
      holds("the source has no " + word, !code.contains(word));
    }
    holds("4: signs 1 to 127 alone", source.chars().allMatch(c -> c >= 1 && c <= 127));
    String[] lines = source.split("\n");
    int from = 0;
    for (int i = 0; i < lines.length; i++) {
      if (lines[i].matches(" {2,4}(private |public |static )*[A-Za-z\\[\\]]+ ?[A-Za-z]*\\(.*\\{")) {
        from = i;
      }
      if (lines[i].matches(" {2,4}\\}")) {
        holds("11: short, line " + (from + 1), i - from <= 60);
      }
    }
  }

  /** Rule 12: the dearest calls make nothing, however often they come. */
  private static void room() {
    var threads = ManagementFactory.getThreadMXBean();
    if (!(threads instanceof com.sun.management.ThreadMXBean counting)) {
      return;
    }
    SiphonsBench x = new SiphonsBench();
    for (int v = 0; v < 5; v++) {
      x.vessel(9, 4 * v, 30);
      x.water(v, 200);
      x.tap(v, v);
    }
    for (int p = 0; p < 8; p++) {
      int first = (p * 3 + 4) % 5;
      int second = (p * 3 + 1) % 5;
      x.pipe(first, second, 4 * first, 4 * second, 1 + p);
      x.kind(p, p % 6, p);
    }
    long before = 0;
    for (int i = 0; i < 40; i++) {
      if (i == 20) {
        before = counting.getThreadAllocatedBytes(Thread.currentThread().getId());
      }
      dearest(x);
    }
    long after = counting.getThreadAllocatedBytes(Thread.currentThread().getId());
    holds("12: twenty rounds of calls make nothing, but " + (after - before) + " bytes",
        after - before < 500);
  }

  private static void dearest(SiphonsBench x) {
    x.letter('s');
    x.letter('9');
    x.letter(';');
    x.tells();
    x.leak(20, 30, 0);
    x.least(0, 1, 60);
    x.round(0);
    x.matters(99);
    x.tapBest(0, 1, 99, 1);
    x.lots(20, 5, 0);
    x.list(0, 20);
    x.lays(0, 0);
    x.judge(0);
    x.whatIs(0, 1, 1);
    x.rack(0, 0, 9);
    x.racks(0, 3, 1);
    x.like(1, 0);
    x.image();
    x.on();
    x.shown(1);
    x.work(0);
    x.level(1, 0);
    x.meets(0, 1);
  }

  /** Rule 7: no call throws, whatever it is given and in whatever state. */
  private static void anyArguments() {
    int[] wild = {
      Integer.MIN_VALUE, -1000000, -1, 0, 1, 2, 3, 4, 5, 8, 9, 10, 20, 21, 31, 60, 99, 100, 120,
      Integer.MAX_VALUE
    };
    SiphonsBench[] states = {new SiphonsBench(), new SiphonsBench()};
    "v9,0,9;v1,20,30;p0>1,0,20,9;k0=3,9;t0=9;s9;".chars().forEach(states[1]::letter);
    holds("7: its own text has no FAULT", states[1].tells() == 6);
    states[1].list(2, 20);
    states[1].rack(1, 3, 9);
    for (SiphonsBench x : states) {
      for (Method m : SiphonsBench.class.getDeclaredMethods()) {
        if (Modifier.isPublic(m.getModifiers())) {
          holds("7: never throws: " + m, neverThrows(x, m, wild));
        }
      }
    }
  }

  private static boolean neverThrows(SiphonsBench x, Method m, int[] wild) {
    int places = m.getParameterCount();
    int tries = 1;
    for (int i = 0; i < Math.min(places, 3); i++) {
      tries *= wild.length;
    }
    Object[] args = new Object[places];
    for (int i = 0; i < tries; i++) {
      int rest = i;
      for (int k = 0; k < places; k++) {
        args[k] = wild[rest % wild.length];
        rest = k < 2 ? rest / wild.length : rest / wild.length + i * 7 % wild.length;
      }
      try {
        m.invoke(x, args);
      } catch (ReflectiveOperationException e) {
        System.out.println(m + Arrays.toString(args) + ": " + e.getCause());
        return false;
      }
    }
    return true;
  }

  public static void main(String[] args) throws IOException {
    face();
    classFiles();
    source();
    room();
    anyArguments();
    System.out.println("RulesTests: " + passed + " kept, " + failed + " not");
    if (failed != 0) {
      System.exit(1);
    }
  }
}
