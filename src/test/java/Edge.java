import java.util.ArrayList;
import java.util.Arrays;
import java.util.List;
import java.util.function.Supplier;

/**
 * What the edge tests share: they extend it, so that its words are theirs. Each of their tests is one
 * sentence of the document, told in the document's own words, with a run of calls on objects of its own
 * that goes otherwise if the sentence is broken.
 */
abstract class Edge {
  static final int LEAST = Integer.MIN_VALUE;
  static final int MOST = Integer.MAX_VALUE;

  /** A call, as the one thing that a test does with an object. */
  interface Call {
    long on(SiphonsBench x);
  }

  private static final Document document = new Document();
  private static String section = "";
  private static String sentence = "";
  private static boolean holds = true;
  private static int kept = 0;
  private static int broken = 0;

  /** What follows is of this section of the document; all numbers of the one ahead must be quoted. */
  static void section(String title) {
    String forgotten = document.forgotten(section);
    if (!forgotten.isEmpty()) {
      broken++;
      System.out.println(section + ": no test of \".. " + forgotten + " ..\"");
    }
    section = title;
  }

  /** One sentence of the document, and its test. */
  static void says(String words, Runnable test) {
    sentence = words;
    holds = true;
    if (!document.quotes(section, words)) {
      fault("the document doesn't say so");
    }
    try {
      test.run();
    } catch (RuntimeException e) {
      fault("it threw " + e);
    }
    if (holds) {
      kept++;
    } else {
      broken++;
    }
  }

  static void due(long got, long want) {
    if (got != want) {
      fault("answered " + got + ", due is " + want);
    }
  }

  private static void fault(String what) {
    holds = false;
    String line = "";
    for (StackTraceElement e : Thread.currentThread().getStackTrace()) {
      // The tests themselves are the lambdas; what they call isn't worth telling.
      if (e.getMethodName().startsWith("lambda$") && !e.getClassName().equals("Edge")) {
        line = " (" + e.getFileName() + ":" + e.getLineNumber() + ")";
        break;
      }
    }
    System.out.println(section + ", \"" + sentence + "\": " + what + line);
  }

  static void finish(String name) {
    section("");
    System.out.println(name + ": " + kept + " sentences hold, " + broken + " do not");
    if (broken != 0) {
      System.exit(1);
    }
  }

  // Objects to begin with.

  static int tell(SiphonsBench x, String text) {
    for (int i = 0; i < text.length(); i++) {
      x.letter(text.charAt(i));
    }
    return x.tells();
  }

  /** As told(), but by calls of the STATEMENTS' own, one by one: no letter has come. */
  static SiphonsBench bench(String text) {
    SiphonsBench x = new SiphonsBench();
    for (String statement : text.split(";")) {
      int[] n = Arrays.stream(statement.substring(1).split("[^0-9]")).mapToInt(Integer::parseInt).toArray();
      int answer = switch (statement.charAt(0)) {
        case 'v' -> x.vessel(n[0], n[1], n[2]);
        case 'p' -> x.pipe(n[0], n[1], n[2], n[3], n[4]);
        case 'k' -> x.kind(n[0], n[1], n[2]);
        case 'w' -> x.water(n[0], n[1]);
        case 't' -> x.tap(n[0], n[1]);
        default -> x.passes(n[0]);
      };
      if (answer < 0) {
        throw new IllegalArgumentException("the test's own bench is wrong: " + text + " " + answer);
      }
    }
    return x;
  }

  /** An object to which a text was told that must be without FAULT. */
  static SiphonsBench told(String text) {
    SiphonsBench x = new SiphonsBench();
    int answer = tell(x, text);
    if (answer < 0) {
      throw new IllegalArgumentException("the test's own text is at fault: " + text + " " + answer);
    }
    return x;
  }

  /** Something of all: a SIPHON that RUNS, LISTS, RACKS, letters, an image of another state. */
  static SiphonsBench some() {
    SiphonsBench x = bench("v2,5,10;v3,0,20;v9,4,9;p0>1,7,0,2;p1>2,3,4,1;k0=1,2;k1=5,4;"
        + "w0=18;w1=7;t0=1;s2;");
    x.image();
    x.passes(1);
    x.list(1, 4);
    x.lays(1, 0);
    x.list(2, 0);
    x.rack(1, 1, 3);
    x.racks(1, 2, 0);
    x.letter('s');
    x.letter('7');
    return x;
  }

  /** As many VESSELS and PIPES as there may be. */
  static SiphonsBench full() {
    SiphonsBench x = new SiphonsBench();
    for (int v = 0; v < 5; v++) {
      x.vessel(1 + v, 3 * v, 10);
    }
    for (int p = 0; p < 8; p++) {
      x.pipe(p % 5, (p + 1) % 5, 3 * (p % 5) + 2, 3 * ((p + 1) % 5) + 2, 1 + p);
    }
    return x;
  }

  /** As many letters as there may be. */
  static SiphonsBench lettered() {
    SiphonsBench x = new SiphonsBench();
    for (int i = 0; i < 120; i++) {
      x.letter('0');
    }
    return x;
  }

  /** The bench at a STEP from 9901 on: so many behind 9900. */
  static SiphonsBench lateAs(String text, int steps) {
    SiphonsBench x = bench(text);
    for (int i = 0; i < 100; i++) {
      x.passes(99);
    }
    x.passes(steps);
    return x;
  }

  static SiphonsBench fill(SiphonsBench x, int list, int... values) {
    x.list(list, values.length);
    for (int i = 0; i < values.length; i++) {
      x.put(list, i, values[i]);
    }
    return x;
  }

  // Refusals: each is tried on one of twins, and but for the count of it they must be twins still.

  /** Each of the calls answers this number on some() of its own, and is counted, if the document counts it. */
  static void refused(int number, Call... calls) {
    refused(Edge::some, number, calls);
  }

  static void refused(Supplier<SiphonsBench> made, int number, Call... calls) {
    for (Call call : calls) {
      refusedOnce(made, number, number, call);
    }
  }

  /** As refused(), of calls that answer a long. */
  static void refusedLong(int number, Call... calls) {
    for (Call call : calls) {
      refusedOnce(Edge::some, number, 4000000000000000000L - number, call);
    }
  }

  private static void refusedOnce(Supplier<SiphonsBench> made, int number, long want, Call call) {
    SiphonsBench x = made.get();
    SiphonsBench twin = made.get();
    due(call.on(x), want);
    for (int what = 11; what <= 16; what++) {
      due(x.count(what), twin.count(what) + (what == 10 - number ? 1 : 0));
    }
    alike(x, twin);
  }

  /** All that can be seen of both is the same; they are used up by it. */
  static void alike(SiphonsBench x, SiphonsBench twin) {
    List<Long> seen = seen(x);
    List<Long> due = seen(twin);
    if (!seen.equals(due)) {
      fault("something else changed: " + seen + " instead of " + due);
    }
  }

  /** What is only told, or in mind alone, changes nothing. */
  static void leaves(Call... calls) {
    for (Call call : calls) {
      SiphonsBench x = some();
      call.on(x);
      alike(x, some());
    }
  }

  private static List<Long> seen(SiphonsBench x) {
    List<Long> seen = new ArrayList<>();
    seenOfBench(x, seen);
    seen.add((long) x.count(4));
    for (int rack = 0; rack < 3; rack++) {
      for (int i = 0; i < 9; i++) {
        seen.add((long) x.racked(rack, i));
      }
    }
    for (int list = 0; list < 4; list++) {
      seen.add((long) x.judge(list));
      for (int i : new int[] {0, 3, 4, 19}) {
        seen.add((long) x.put(list, i, LEAST));
      }
    }
    seen.add((long) x.tells());
    seenOfBench(x, seen);
    seen.add((long) x.on());
    seenOfBench(x, seen);
    return seen;
  }

  private static void seenOfBench(SiphonsBench x, List<Long> seen) {
    for (int what : new int[] {0, 1, 2, 3, 5}) {
      seen.add((long) x.count(what));
    }
    int vessels = x.count(0);
    for (int v = 0; v < vessels; v++) {
      for (int what = 0; what < 5; what++) {
        seen.add((long) x.of(v, what));
      }
    }
    int pipes = x.count(1);
    for (int p = 0; p < pipes; p++) {
      for (int what = 0; what < 9; what++) {
        seen.add((long) x.ofPipe(p, what));
      }
    }
  }
}
