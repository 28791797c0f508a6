import java.lang.reflect.InvocationTargetException;
import java.lang.reflect.Method;
import java.util.ArrayList;
import java.util.Arrays;
import java.util.List;
import java.util.Random;
import java.util.TreeMap;

/** Many runs of calls by lot, on a SiphonsBench and on a Model: every answer must be the same. */
public final class ModelTests {
  private static final int RUNS = 800;
  private static final int CALLS = 512;

  private static final int[] WILD = {
    Integer.MIN_VALUE, Integer.MIN_VALUE + 1, -1000, -2, -1, 0, 1, 2, 9, 10, 11, 20, 21, 30, 31, 50,
    60, 61, 99, 100, 120, 200, 255, 256, 1000, Integer.MAX_VALUE - 1, Integer.MAX_VALUE
  };

  private static final String[] NAMES = {
    "letter", "tells", "vessel", "pipe", "kind", "rate", "water", "tap", "passes", "of", "ofPipe",
    "level", "goes", "then", "over", "dry", "starts", "turns", "round", "least", "tapBest",
    "matters", "order", "meets", "shown", "work", "leak", "all", "judge", "whatIs", "lots", "list",
    "put", "lays", "rack", "racks", "racked", "like", "image", "on", "count"
  };

  private final Random lot;
  private final int run;
  private final SiphonsBench bench = new SiphonsBench();
  private final Model model = new Model();
  private final List<String> calls = new ArrayList<>();
  private long lastList = 0;

  private ModelTests(int run) {
    this.run = run;
    this.lot = new Random(run * 7919L + 13);
  }

  private static final TreeMap<String, TreeMap<String, Integer>> ANSWERS = new TreeMap<>();
  private static final TreeMap<String, Method> ON_BENCH = methodsOf(SiphonsBench.class);
  private static final TreeMap<String, Method> ON_MODEL = methodsOf(Model.class);

  private static TreeMap<String, Method> methodsOf(Class<?> c) {
    TreeMap<String, Method> methods = new TreeMap<>();
    for (Method m : c.getDeclaredMethods()) {
      if (java.lang.reflect.Modifier.isPublic(m.getModifiers())) {
        m.setAccessible(true);
        methods.put(m.getName(), m);
      }
    }
    return methods;
  }

  private static long answer(Method m, Object on, int[] args) {
    try {
      Object[] boxed = Arrays.stream(args).boxed().toArray();
      return ((Number) m.invoke(on, boxed)).longValue();
    } catch (InvocationTargetException e) {
      throw new IllegalStateException("it threw " + e.getCause(), e.getCause());
    } catch (IllegalAccessException e) {
      throw new IllegalStateException(e);
    }
  }

  private boolean same(String name, int... args) {
    String call = name + Arrays.toString(args);
    calls.add(call);
    long want = answer(ON_MODEL.get(name), model, args);
    long got;
    try {
      got = answer(ON_BENCH.get(name), bench, args);
    } catch (IllegalStateException e) {
      System.out.println("run " + run + ": " + call + " " + e.getMessage());
      return false;
    }
    note(name, want);
    if (got == want) {
      return true;
    }
    System.out.println("run " + run + ", call " + calls.size() + ": " + call + " answered " + got
        + ", the model says " + want);
    System.out.println("  " + calls.subList(Math.max(0, calls.size() - 30), calls.size()));
    return false;
  }

  private static void note(String name, long answer) {
    String sort = answer >= 4000000000000000000L ? "refused" : answer < 0 ? "" + answer : "0..";
    if (name.equals("tells") && answer <= -1000) {
      sort = answer <= -2000 ? "fault 2" : "fault 1";
    }
    if (name.equals("goes") && answer < 0) {
      sort = "back";
    }
    ANSWERS.computeIfAbsent(name, n -> new TreeMap<>()).merge(sort, 1, Integer::sum);
  }

  private int below(int n) {
    return lot.nextInt(n);
  }

  /** Mostly from least to most, sometimes just outside, seldom anything. */
  private int near(int least, int most) {
    // In some runs every second number is anything at all.
    int sort = below(run % 10 == 3 ? 10 : 40);
    if (run % 10 == 3 && sort > 4) return WILD[below(WILD.length)];
    if (sort == 0) return WILD[below(WILD.length)];
    if (sort == 1) return least - 1;
    if (sort == 2) return most + 1;
    if (sort == 3) return least;
    if (sort == 4) return most;
    return least + below(most - least + 1);
  }

  private int tank() {
    int there = model.count(0);
    return near(0, Math.max(0, there - 1));
  }

  private int tube() {
    int there = model.count(1);
    return near(0, Math.max(0, there - 1));
  }

  private int what(int most) {
    return near(0, most);
  }

  private int mouthIn(int tank) {
    if (tank < 0 || tank >= model.count(0)) return near(0, 50);
    int base = model.of(tank, 1);
    return below(3) == 0 ? base : near(base, base + model.of(tank, 2));
  }

  private int fullOf(int tank) {
    if (tank < 0 || tank >= model.count(0)) return 10;
    return model.of(tank, 0) * model.of(tank, 2);
  }

  private boolean letters() {
    String text = below(6) == 0 ? broken(statements()) : statements();
    for (int i = 0; i < text.length(); i++) {
      if (!same("letter", text.charAt(i))) return false;
      if (calls.size() >= CALLS - 2) return true;
    }
    return same("tells");
  }

  private String statements() {
    StringBuilder s = new StringBuilder();
    int n = 1 + below(4);
    for (int i = 0; i < n; i++) {
      switch (below(7)) {
        case 0 -> s.append('v').append(number(9)).append(',').append(number(20)).append(',')
            .append(number(30));
        case 1 -> {
          int a = below(4);
          s.append('p').append(a).append('>').append((a + 1) % 3).append(',')
              .append(below(21)).append(',').append(below(21)).append(',').append(number(9));
        }
        case 2 -> s.append('k').append(below(6)).append('=').append(below(6)).append(',')
            .append(below(10));
        case 3 -> s.append('w').append(below(3)).append('=').append(number(60));
        case 4 -> s.append('t').append(below(3)).append('=').append(below(10));
        default -> s.append('s').append(number(99));
      }
      s.append(';');
    }
    return s.toString();
  }

  private String number(int most) {
    int n = below(20) == 0 ? below(100) : 1 + below(most);
    return n < 10 && below(5) == 0 ? "0" + n : "" + n;
  }

  private String broken(String text) {
    StringBuilder s = new StringBuilder(text);
    int at = below(s.length());
    switch (below(4)) {
      case 0 -> s.deleteCharAt(at);
      case 1 -> s.insert(at, "vpkwts,;=>0123456789 x".charAt(below(22)));
      case 2 -> s.setCharAt(at, (char) below(256));
      default -> s.setLength(at);
    }
    return s.toString();
  }

  /** A list that is told as it is, or nearly so: else judge and whatIs would see no likely ones. */
  private boolean tellWaters() {
    int list = below(4);
    int n = 1 + below(9);
    if (!same("list", list, n)) return false;
    for (int i = 0; i < n; i++) {
      int v = model.count(0) > 0 ? model.then(i, 0, 0) : 0;
      if (below(12) == 0) v = Integer.MIN_VALUE;
      if (below(30) == 0) v++;
      if (!same("put", list, i, v)) return false;
    }
    return same("judge", list);
  }

  private boolean tellRates() {
    if (model.count(1) == 0) return true;
    int list = below(4);
    int n = 1 + below(11);
    int pipe = below(model.count(1));
    if (!same("list", list, n)) return false;
    int was = model.ofPipe(pipe, 6);
    for (int i = 0; i < n; i++) {
      if (i < 9) model.rate(pipe, i + 1);
      int v = (int) model.goes(pipe);
      model.rate(pipe, was);
      if (below(40) == 0) v++;
      if (!same("put", list, i, v)) return false;
    }
    return same("whatIs", list, pipe, 0) && same("whatIs", list, pipe, 1);
  }

  private boolean any() {
    String name = NAMES[below(NAMES.length)];
    int v = tank();
    return switch (name) {
      case "letter" -> below(3) == 0 ? same(name, near(0, 255)) : letters();
      case "tells", "all", "image" -> same(name);
      case "on" -> below(3) == 0 ? same(name) : same("image");
      case "vessel" -> same(name, near(1, 9), below(2) * near(0, 20), near(1, below(2) * 20 + 10));
      case "pipe" -> {
        int w = below(12) == 0 ? v : (v + 1 + below(4)) % 5;
        yield same(name, v, w, mouthIn(v), mouthIn(w), near(1, 9));
      }
      case "kind" -> same(name, tube(), near(0, 5), near(0, 9));
      case "rate" -> same(name, tube(), near(1, 9));
      case "water" -> same(name, v, near(0, fullOf(v)));
      case "tap" -> same(name, v, near(0, 9));
      case "passes" -> same(name, below(2) == 0 ? near(1, 5) : near(1, 99));
      case "of" -> same(name, v, what(4));
      case "ofPipe" -> same(name, tube(), what(8));
      case "level" -> same(name, v, what(1));
      case "goes", "starts" -> same(name, tube());
      case "then" -> {
        int what = what(2);
        yield same(name, near(0, 99), what, what == 1 ? tube() : v);
      }
      case "over", "dry", "shown" -> same(name, v);
      case "turns" -> same(name, tube(), near(0, 99));
      case "round" -> same(name, what(2));
      case "least" -> below(3) > 0 || same(name, v, tube(), near(1, below(4) == 0 ? 60 : 12));
      case "tapBest" -> same(name, v, tank(), near(0, below(3) == 0 ? 99 : 15), what(1));
      case "matters" -> same(name, near(0, 99));
      case "order" -> same(name, v);
      case "meets" -> same(name, v, tank());
      case "work" -> same(name, what(1));
      case "leak" -> below(4) > 0 || same(name, near(2, 20), near(1, 30), what(1));
      case "judge" -> below(2) == 0 ? same(name, near(0, 3)) : tellWaters();
      case "whatIs" -> below(2) == 0 ? same(name, near(0, 3), tube(), what(1)) : tellRates();
      case "lots" -> same(name, near(1, 20), lot.nextInt(), what(1));
      case "list" -> same(name, near(0, 3), near(0, 20));
      case "put" -> same(name, near(0, 3), near(0, 19), lot.nextInt());
      case "lays" -> same(name, near(0, 3), near(0, 19));
      case "rack" -> same(name, near(0, 2), near(0, 5), near(0, 9));
      case "racks" -> same(name, near(0, 2), near(0, 8), below(5) == 0 ? -1 : tube());
      case "racked" -> same(name, near(0, 2), near(0, 8));
      case "like" -> same(name, near(0, 2), near(0, 2));
      default -> same("count", below(2) == 0 ? near(0, 5) : near(11, 16));
    };
  }

  /** Half the runs begin with a bench that is built, so that there is something to see. */
  private boolean build() {
    int vessels = 2 + below(4);
    for (int i = 0; i < vessels; i++) {
      int base = below(3) * below(8);
      if (!same("vessel", 1 + below(9), base, 1 + below(12))) return false;
    }
    int pipes = 1 + below(8);
    for (int i = 0; i < pipes; i++) {
      int a = below(vessels);
      int b = (a + 1 + below(vessels - 1)) % vessels;
      if (!same("pipe", a, b, mouthIn(a), mouthIn(b), 1 + below(9))) return false;
      if (i < model.count(1) && !same("kind", i, below(6), below(4))) return false;
    }
    for (int i = 0; i < vessels; i++) {
      if (!same("water", i, below(fullOf(i) + 1))) return false;
      if (below(2) == 0 && !same("tap", i, below(10))) return false;
    }
    return true;
  }

  private boolean passesAll() {
    if (run % 50 == 7) {
      for (int i = 0; i < 104; i++) {
        if (!same("passes", 97)) return false;
      }
    }
    if (run % 4 != 0 && !build()) return false;
    while (calls.size() < CALLS) {
      if (!any()) return false;
    }
    return true;
  }

  /** A lot that never gives an answer of some sort would prove nothing about it. */
  private static int unseen() {
    String[] wanted = {
      "tells:fault 1", "tells:fault 2", "tells:0..", "goes:back", "over:-9", "over:0..", "dry:-9",
      "dry:0..", "starts:-9", "starts:0..", "round:-9", "round:0..", "least:-9", "least:0..",
      "meets:-9", "meets:0..", "matters:-9", "matters:0..", "judge:-9", "judge:0..", "judge:-11",
      "whatIs:0..", "lays:-13", "lays:0..", "racks:-16", "racks:-13", "racks:-11", "racks:0..",
      "racked:-9", "racked:0..", "like:-11", "like:0..", "on:-3", "on:0..", "leak:0..",
      "leak:refused", "pipe:-3", "pipe:-6", "vessel:-6", "list:-14", "rack:-14", "put:-13"
    };
    int unseen = 0;
    for (String w : wanted) {
      String[] parts = w.split(":");
      if (!ANSWERS.getOrDefault(parts[0], new TreeMap<>()).containsKey(parts[1])) {
        System.out.println("no run has seen " + w);
        unseen++;
      }
    }
    return unseen;
  }

  public static void main(String[] args) {
    int runs = args.length > 0 ? Integer.parseInt(args[0]) : RUNS;
    int wrong = 0;
    for (int run = 0; run < runs && wrong < 5; run++) {
      if (!new ModelTests(run).passesAll()) {
        wrong++;
      }
    }
    if (args.length > 0) {
      System.out.println(ANSWERS);
    }
    wrong += unseen();
    System.out.println("ModelTests: " + (runs - wrong) + " runs as the model, " + wrong + " not");
    if (wrong != 0) {
      System.exit(1);
    }
  }
}
