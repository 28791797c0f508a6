/**
 * For each promise of the document: ordinary calls, the edges that it names, wrong calls. All answers
 * that are due were worked out by hand from the document.
 */
public final class PromiseTests {
  private static final int LEAST_INT = Integer.MIN_VALUE;
  private static final int MOST_INT = Integer.MAX_VALUE;
  private static final long LONGS = 4000000000000000000L;

  private static final int[] checks = new int[43];
  private static final int[] wrong = new int[43];
  private static int promise;

  private static void due(String call, long got, long want) {
    checks[promise]++;
    if (got != want) {
      wrong[promise]++;
      System.out.println("promise " + promise + ": " + call + " answered " + got + ", due is " + want);
    }
  }

  private static int tell(SiphonsBench x, String text) {
    for (int i = 0; i < text.length(); i++) {
      x.letter(text.charAt(i));
    }
    return x.tells();
  }

  /** A bench built by letters; the text must be without FAULT. */
  private static SiphonsBench bench(String text) {
    SiphonsBench x = new SiphonsBench();
    int told = tell(x, text);
    if (told < 0) {
      throw new IllegalArgumentException("the test's own text is at fault: " + text + " " + told);
    }
    return x;
  }

  private static SiphonsBench fill(SiphonsBench x, int list, int... values) {
    x.list(list, values.length);
    for (int i = 0; i < values.length; i++) {
      x.put(list, i, values[i]);
    }
    return x;
  }

  private static void counts(SiphonsBench x, int nobody, int other, int state, int below, int room) {
    due("count(11)", x.count(11), nobody);
    due("count(12)", x.count(12), other);
    due("count(13)", x.count(13), state);
    due("count(14)", x.count(14), below);
    due("count(15)", x.count(15), 0);
    due("count(16)", x.count(16), room);
  }

  private static void newObject() {
    SiphonsBench x = new SiphonsBench();
    for (int what = 0; what <= 5; what++) {
      due("count(" + what + ")", x.count(what), 0);
    }
    counts(x, 0, 0, 0, 0, 0);
    due("all()", x.all(), 0);
    due("work(0)", x.work(0), 0);
    due("matters(5)", x.matters(5), -9);
    due("round(0)", x.round(0), 3);
    due("round(1)", x.round(1), 0);
    due("round(2)", x.round(2), 3);
    due("then(9, 2, 0)", x.then(9, 2, 0), 0);
    due("leak(2, 1, 0)", x.leak(2, 1, 0), 0);
    due("leak(2, 1, 1)", x.leak(2, 1, 1), 1);
    due("lots(3, 1, 0)", x.lots(3, 1, 0), 0);
    due("put(3, 0, 0)", x.put(3, 0, 0), -11);
    due("racked(2, 0)", x.racked(2, 0), -11);
    due("order(0)", x.order(0), -1);
    due("on()", x.on(), -3);
  }

  private static void letter() {
    SiphonsBench x = new SiphonsBench();
    due("letter(0)", x.letter(0), 1);
    due("letter(255)", x.letter(255), 2);
    due("letter(-1)", x.letter(-1), -4);
    due("letter(256)", x.letter(256), -6);
    due("letter(least)", x.letter(LEAST_INT), -4);
    due("letter(most)", x.letter(MOST_INT), -6);
    for (int i = 3; i <= 120; i++) {
      due("letter(65)", x.letter(65), i);
    }
    due("the 121st", x.letter(65), -6);
    due("letter(-1), full", x.letter(-1), -4);
    due("count(4)", x.count(4), 120);
    counts(x, 0, 0, 0, 3, 3);
  }

  private static void faultsOfLetters() {
    String[] texts = {
      "", ";", "V", "v", "v1", "v1,", "v1,2", "v1,2,", "v1,2,3", "v1,2,3;x", "v1,2,3;;", "v,", "v123",
      "v1;", "v1,2,3,", "v1,2,345;", "p", "p0", "p0,", "p0>", "p0>1", "p0>1>", "p0>1,2", "p0>1,2,3",
      "p0>1,2,3,4", "p0>1,2,3;", "p0>1,2,3,4,", "k", "k0,", "k0=1;", "k0=1,2", "w0", "w0,1;", "w0=",
      "w0=1,", "t0=1", "t0>1;", "s", "s;", "s1", "s1,", "s100;", "s-1;", "a1;", " s1;", "s1; s1;",
      "v0,0,0;w9=9;q", "s1;s2;s3"
    };
    int[] places = {
      0, 0, 0, 1, 2, 3, 4, 5, 6, 7, 7, 1, 3, 2, 6, 7, 1, 2, 2, 3, 4, 4, 6, 8, 10, 8, 10, 1, 2, 4, 6,
      2, 2, 3, 4, 4, 2, 1, 1, 2, 2, 3, 1, 0, 0, 3, 12, 8
    };
    for (int i = 0; i < texts.length; i++) {
      SiphonsBench x = new SiphonsBench();
      due("tells \"" + texts[i] + "\"", tell(x, texts[i]), -1000 - places[i]);
      due("letters left of it", x.count(4), 0);
      due("VESSELS of it", x.count(0), 0);
    }
    SiphonsBench x = new SiphonsBench();
    due("a whole text", tell(x, "v1,2,3;"), 1);
    due("less of it than of the one ahead", tell(x, "v1,2,3"), -1006);
    due("less yet", tell(x, "v1"), -1002);
    due("nothing", tell(x, ""), -1000);
    due("VESSELS", x.count(0), 1);
    x.letter('s');
    x.letter(0);
    due("a letter 0", x.tells(), -1001);
    x.letter(233);
    due("a letter 233", x.tells(), -1000);
  }

  private static void faultsOfStatements() {
    String[] texts = {
      "v0,0,1;", "v1,0,0;", "v10,0,1;", "v1,21,1;", "v1,0,31;", "s1;s0;", "w0=0;", "t0=0;",
      "v1,0,1;w0=2;", "v1,0,1;t0=10;", "v1,0,1;t1=1;", "v1,0,1;v1,0,1;p0>0,0,0,1;",
      "v1,0,1;v1,0,1;p0>2,0,0,1;", "v1,0,1;v1,0,1;p0>1,2,0,1;", "v1,0,1;v1,5,1;p0>1,0,4,1;",
      "v1,0,1;v1,0,1;p0>1,0,0,0;", "v1,0,1;v1,0,1;p0>1,0,0,10;", "v1,0,1;v1,0,1;k0=1,1;",
      "v1,0,1;v1,0,1;p0>1,0,0,1;k0=6,1;", "v1,0,1;v1,0,1;p0>1,0,0,1;k0=5,10;",
      "v1,0,1;v1,0,1;v1,0,1;v1,0,1;v1,0,1;v1,0,1;s1;", "s1;w0=0;s0;"
    };
    int[] places = {0, 0, 0, 0, 0, 3, 0, 0, 7, 7, 7, 14, 14, 14, 14, 14, 14, 14, 25, 25, 35, 3};
    for (int i = 0; i < texts.length; i++) {
      SiphonsBench x = new SiphonsBench();
      due("tells \"" + texts[i] + "\"", tell(x, texts[i]), -2000 - places[i]);
      due("letters left of it", x.count(4), 0);
      due("VESSELS of it", x.count(0), 0);
      due("PIPES of it", x.count(1), 0);
      due("STEP of it", x.count(2), 0);
      counts(x, 0, 0, 0, 0, 0);
    }
  }

  private static void tells() {
    SiphonsBench x = new SiphonsBench();
    due("tells", tell(x, "v4,06,10;v09,0,30;p0>1,16,0,9;k0=4,3;w0=39;t0=8;s02;"), 7);
    due("count(0)", x.count(0), 2);
    due("count(1)", x.count(1), 1);
    due("count(2)", x.count(2), 2);
    due("count(4)", x.count(4), 0);
    due("of(0, 0)", x.of(0, 0), 4);
    due("of(0, 1)", x.of(0, 1), 6);
    due("of(0, 2)", x.of(0, 2), 10);
    due("of(0, 4)", x.of(0, 4), 8);
    due("of(1, 2)", x.of(1, 2), 30);
    int[] pipe = {4, 3, 0, 1, 16, 0, 9, 0, -9};
    for (int what = 0; what < pipe.length; what++) {
      due("ofPipe(0, " + what + ")", x.ofPipe(0, what), pipe[what]);
    }
    // 47 and 48 in the first: what stands above its brim of 40 goes by the weir.
    due("of(0, 3)", x.of(0, 3), 40);
    due("of(1, 3)", x.of(1, 3), 15);
    // What came ahead of a FAULT of kind 2 is taken back: STEPS, WATER, THE SUMP, what RUNS.
    SiphonsBench y = bench("v1,10,9;v9,0,9;p0>1,10,0,1;k0=1,0;t0=9;s1;");
    due("RUNS", y.count(5), 1);
    due("tells", tell(y, "s99;w0=0;s1;k0=0,0;v1,0,1;t5=1;"), -2026);
    due("STEP", y.count(2), 1);
    due("WATER", y.of(0, 3), 8);
    due("THE SUMP", y.count(3), 0);
    due("RUNS", y.count(5), 1);
    due("VESSELS", y.count(0), 2);
    due("KIND", y.ofPipe(0, 0), 1);
    due("tells again", tell(y, "s1;"), 1);
    due("STEP", y.count(2), 2);
    // 40 STATEMENTS have room in 120 letters.
    StringBuilder most = new StringBuilder();
    for (int i = 0; i < 40; i++) {
      most.append("s9;");
    }
    due("40 STATEMENTS", tell(y, most.toString()), 40);
    due("STEP", y.count(2), 362);
    counts(y, 0, 0, 0, 0, 0);
    faultsOfLetters();
    faultsOfStatements();
  }

  private static void vessel() {
    SiphonsBench x = new SiphonsBench();
    due("vessel(1, 0, 1)", x.vessel(1, 0, 1), 0);
    due("vessel(9, 20, 30)", x.vessel(9, 20, 30), 1);
    due("vessel(0, 0, 1)", x.vessel(0, 0, 1), -4);
    due("vessel(1, -1, 1)", x.vessel(1, -1, 1), -4);
    due("vessel(1, 0, 0)", x.vessel(1, 0, 0), -4);
    due("vessel(99, 99, 0)", x.vessel(99, 99, 0), -4);
    due("vessel(10, 0, 1)", x.vessel(10, 0, 1), -6);
    due("vessel(1, 21, 1)", x.vessel(1, 21, 1), -6);
    due("vessel(1, 0, 31)", x.vessel(1, 0, 31), -6);
    due("vessel(most, least, most)", x.vessel(MOST_INT, LEAST_INT, MOST_INT), -4);
    due("vessel(2, 3, 4)", x.vessel(2, 3, 4), 2);
    due("vessel(2, 3, 4)", x.vessel(2, 3, 4), 3);
    due("vessel(2, 3, 4)", x.vessel(2, 3, 4), 4);
    due("a sixth", x.vessel(2, 3, 4), -6);
    due("a sixth that is wrong", x.vessel(0, 3, 4), -4);
    due("count(0)", x.count(0), 5);
    int[] last = {2, 3, 4, 0, 0};
    for (int what = 0; what < 5; what++) {
      due("of(4, " + what + ")", x.of(4, what), last[what]);
    }
    counts(x, 0, 0, 0, 6, 4);
  }

  private static void pipe() {
    SiphonsBench x = bench("v2,5,10;v3,0,20;");
    due("pipe(0, 1, 5, 20, 1)", x.pipe(0, 1, 5, 20, 1), 0);
    due("pipe(1, 0, 0, 15, 9)", x.pipe(1, 0, 0, 15, 9), 1);
    due("-1 the first", x.pipe(2, 1, 5, 0, 0), -1);
    due("-1 the second", x.pipe(0, -1, 5, 0, 10), -1);
    due("-1 one twice", x.pipe(1, 1, 5, 5, 1), -1);
    due("-4 ahead of -3", x.pipe(0, 1, 4, 0, 0), -4);
    due("-6 ahead of -3", x.pipe(0, 1, 4, 0, 10), -6);
    due("-3 below its BASE", x.pipe(0, 1, 4, 0, 1), -3);
    due("-3 above its rim", x.pipe(0, 1, 16, 0, 1), -3);
    due("-3 the other below", x.pipe(0, 1, 5, -1, 1), -3);
    due("-3 the other above", x.pipe(0, 1, 5, 21, 1), -3);
    due("-3 far off", x.pipe(0, 1, MOST_INT, LEAST_INT, 1), -3);
    int[] was = {0, 0, 1, 0, 0, 15, 9, 0, -9};
    for (int what = 0; what <= 8; what++) {
      due("ofPipe(1, " + what + ")", x.ofPipe(1, what), was[what]);
    }
    for (int i = 2; i < 8; i++) {
      due("a pipe more", x.pipe(0, 1, 5, 0, 9), i);
    }
    due("a ninth", x.pipe(0, 1, 5, 0, 9), -6);
    due("a ninth whose MOUTH is wrong", x.pipe(0, 1, 0, 0, 9), -6);
    due("count(1)", x.count(1), 8);
    counts(x, 3, 0, 5, 1, 3);
  }

  private static void kind() {
    SiphonsBench x = bench("v1,10,9;v9,0,9;p0>1,10,0,1;");
    due("kind(0, 1, 7)", x.kind(0, 1, 7), 0);
    due("kind(0, 5, 0)", x.kind(0, 5, 0), 17);
    due("kind(0, 0, 9)", x.kind(0, 0, 9), 50);
    due("kind(0, 1, 0)", x.kind(0, 1, 0), 9);
    due("-1", x.kind(1, 6, -1), -1);
    due("-1", x.kind(-1, 0, 0), -1);
    due("-2 ahead of -4", x.kind(0, 6, -1), -2);
    due("-2", x.kind(0, -1, 0), -2);
    due("-4", x.kind(0, 1, -1), -4);
    due("-6", x.kind(0, 1, 10), -6);
    x.water(0, 9);
    x.passes(1);
    due("it RUNS", x.ofPipe(0, 7), 1);
    due("a refusal changes nothing", x.kind(0, 1, 10), -6);
    due("it RUNS", x.ofPipe(0, 7), 1);
    due("the same KIND", x.kind(0, 1, 0), 10);
    due("it RUNS no more", x.ofPipe(0, 7), 0);
    counts(x, 2, 2, 0, 1, 2);
  }

  private static void rate() {
    SiphonsBench x = bench("v1,0,9;v1,0,9;p0>1,0,0,4;");
    due("rate(0, 9)", x.rate(0, 9), 4);
    due("rate(0, 1)", x.rate(0, 1), 9);
    due("-1", x.rate(1, 0), -1);
    due("-1", x.rate(-1, 5), -1);
    due("-4", x.rate(0, 0), -4);
    due("-6", x.rate(0, 10), -6);
    due("ofPipe(0, 6)", x.ofPipe(0, 6), 1);
    counts(x, 2, 0, 0, 1, 1);
  }

  private static void water() {
    SiphonsBench x = bench("v3,2,7;");
    due("water(0, 21)", x.water(0, 21), 0);
    due("water(0, 22)", x.water(0, 22), -6);
    due("water(0, -1)", x.water(0, -1), -4);
    due("water(0, 0)", x.water(0, 0), 21);
    due("water(1, -1)", x.water(1, -1), -1);
    due("water(-1, 0)", x.water(-1, 0), -1);
    due("of(0, 3)", x.of(0, 3), 0);
    counts(x, 2, 0, 0, 1, 1);
  }

  private static void tap() {
    SiphonsBench x = bench("v3,2,7;");
    due("tap(0, 9)", x.tap(0, 9), 0);
    due("tap(0, 10)", x.tap(0, 10), -6);
    due("tap(0, -1)", x.tap(0, -1), -4);
    due("tap(0, 0)", x.tap(0, 0), 9);
    due("tap(1, 10)", x.tap(1, 10), -1);
    due("tap(-1, 0)", x.tap(-1, 0), -1);
    due("of(0, 4)", x.of(0, 4), 0);
    counts(x, 2, 0, 0, 1, 1);
  }

  private static void behind(SiphonsBench x, int steps, int... waters) {
    if (steps > 0) {
      x.passes(steps);
    }
    for (int v = 0; v < waters.length; v++) {
      due("WATER of " + v + " at STEP " + x.count(2), x.of(v, 3), waters[v]);
    }
  }

  private static void passes() {
    SiphonsBench x = new SiphonsBench();
    due("passes(1)", x.passes(1), 1);
    due("passes(99)", x.passes(99), 100);
    due("passes(0)", x.passes(0), -4);
    due("passes(100)", x.passes(100), -6);
    due("passes(least)", x.passes(LEAST_INT), -4);
    for (int i = 0; i < 100; i++) {
      due("passes(99)", x.passes(99), 199 + 99 * i < 9999 ? 199 + 99 * i : 9999);
    }
    due("passes(98)", x.passes(98), 9999);
    due("passes(1)", x.passes(1), 9999);
    due("count(2)", x.count(2), 9999);
    counts(x, 0, 0, 0, 2, 1);
    // A PIPE either way; cut; PIPES by numbers, each as it GOES then.
    behind(bench("v1,0,9;v1,0,9;p0>1,0,0,9;w0=9;"), 1, 5, 4);
    behind(bench("v1,0,9;v1,0,9;p1>0,0,0,9;w0=9;"), 1, 5, 4);
    behind(bench("v1,0,9;v1,0,9;p1>0,0,0,9;k0=2,0;w0=9;"), 1, 9, 0);
    behind(bench("v1,9,9;v9,0,9;v9,0,9;p0>1,9,0,9;p1>2,0,0,9;w0=9;"), 1, 0, 5, 4);
    behind(bench("v1,9,9;v9,0,9;v9,0,9;p1>2,0,0,9;p0>1,9,0,9;w0=9;"), 1, 0, 9, 0);
    // TAPS first; between, WATER may be above the rim; THE SUMP last.
    SiphonsBench over = bench("v1,0,5;v1,0,9;p0>1,5,0,9;t0=9;");
    behind(over, 1, 5, 4);
    due("THE SUMP", over.count(3), 0);
    behind(over, 1, 5, 9);
    due("THE SUMP", over.count(3), 4);
    behind(over, 1, 5, 9);
    due("THE SUMP", over.count(3), 13);
    siphonPasses();
    cupPasses();
    weirAndDripPass();
  }

  private static void siphonPasses() {
    SiphonsBench x = bench("v1,10,9;v9,0,9;p0>1,12,0,2;k0=1,3;t0=1;w0=4;");
    due("CREST", x.ofPipe(0, 8), 16);
    behind(x, 1, 5, 0);
    due("it doesn't RUN yet", x.ofPipe(0, 7), 0);
    behind(x, 1, 4, 2);
    due("it RUNS from its CREST on", x.ofPipe(0, 7), 1);
    behind(x, 1, 3, 4);
    due("it RUNS below it", x.ofPipe(0, 7), 1);
    behind(x, 1, 2, 6);
    due("it BREAKS at its MOUTH", x.ofPipe(0, 7), 0);
    behind(x, 1, 3, 6);
    // It went not at all: the other one is as high.
    SiphonsBench y = bench("v1,0,9;v1,0,9;p0>1,0,0,9;k0=1,0;w0=9;w1=5;");
    behind(y, 1, 7, 7);
    due("it RUNS", y.ofPipe(0, 7), 1);
    behind(y, 1, 7, 7);
    due("it BREAKS", y.ofPipe(0, 7), 0);
    // Water ahead of the rim's turn may reach a CREST above the rim.
    SiphonsBench z = bench("v1,10,3;v9,0,9;p0>1,13,0,1;k0=1,1;t0=4;");
    behind(z, 1, 3, 0);
    behind(z, 1, 3, 1);
    due("it RUNS", z.ofPipe(0, 7), 1);
    due("THE SUMP", z.count(3), 4);
  }

  private static void cupPasses() {
    SiphonsBench x = bench("v1,10,9;v9,0,9;p0>1,10,0,2;k0=3,2;w0=6;");
    due("CREST", x.ofPipe(0, 8), 17);
    behind(x, 1, 6, 0);
    x.water(0, 7);
    behind(x, 1, 3, 4);
    due("it RUNS", x.ofPipe(0, 7), 1);
    behind(x, 1, 0, 7);
    due("it BREAKS", x.ofPipe(0, 7), 0);
  }

  private static void weirAndDripPass() {
    behind(bench("v1,10,9;v9,0,9;p0>1,12,0,1;k0=4,0;w0=9;"), 1, 2, 7);
    behind(bench("v1,0,9;v1,0,9;p0>1,2,0,1;k0=4,0;w0=9;"), 1, 5, 4);
    behind(bench("v1,0,9;v1,0,9;p1>0,2,0,1;k0=4,0;w0=9;"), 1, 9, 0);
    SiphonsBench x = bench("v1,10,9;v9,0,9;p0>1,10,0,2;k0=5,7;w0=9;");
    behind(x, 1, 9, 0);
    behind(x, 1, 7, 2);
    behind(x, 1, 7, 2);
    behind(x, 1, 7, 2);
    behind(x, 1, 5, 4);
  }

  private static void of() {
    SiphonsBench x = bench("v3,4,5;v9,0,1;w0=14;t0=6;");
    int[] was = {3, 4, 5, 14, 6};
    for (int what = 0; what < 5; what++) {
      due("of(0, " + what + ")", x.of(0, what), was[what]);
    }
    due("of(1, 0)", x.of(1, 0), 9);
    due("-2", x.of(0, 5), -2);
    due("-2", x.of(0, -1), -2);
    due("-1", x.of(2, 9), -1);
    due("-1", x.of(-1, 0), -1);
    counts(x, 2, 2, 0, 0, 0);
  }

  private static void ofPipe() {
    SiphonsBench x = bench("v3,4,5;v9,0,9;p1>0,3,9,7;k0=1,6;");
    int[] was = {1, 6, 1, 0, 3, 9, 7, 0, 10};
    for (int what = 0; what <= 8; what++) {
      due("ofPipe(0, " + what + ")", x.ofPipe(0, what), was[what]);
    }
    int[] crests = {-9, 10, -9, 3, -9, -9};
    for (int kind = 0; kind <= 5; kind++) {
      x.kind(0, kind, 6);
      due("KIND", x.ofPipe(0, 0), kind);
      due("CREST of " + kind, x.ofPipe(0, 8), crests[kind]);
    }
    x.kind(0, 3, 5);
    due("CREST of a CUP", x.ofPipe(0, 8), 4);
    due("-2", x.ofPipe(0, 9), -2);
    due("-2", x.ofPipe(0, -1), -2);
    due("-1", x.ofPipe(1, 9), -1);
    due("-1", x.ofPipe(-1, 0), -1);
    counts(x, 2, 2, 0, 0, 0);
  }

  private static void level() {
    SiphonsBench x = bench("v6,3,5;v6,0,5;w0=9;");
    due("level(0, 0)", x.level(0, 0), 9);
    due("level(0, 1)", x.level(0, 1), 2);
    due("0 by 1", x.level(1, 0), 0);
    due("0 by 1", x.level(1, 1), 1);
    x.water(1, 30);
    due("level(1, 0)", x.level(1, 0), 5);
    due("level(1, 1)", x.level(1, 1), 1);
    x.water(1, 7);
    due("level(1, 0)", x.level(1, 0), 7);
    due("level(1, 1)", x.level(1, 1), 6);
    due("-2", x.level(0, 2), LONGS + 2);
    due("-2", x.level(0, -1), LONGS + 2);
    due("-1", x.level(2, 2), LONGS + 1);
    due("-1", x.level(-1, 0), LONGS + 1);
    counts(x, 2, 2, 0, 0, 0);
  }

  private static void goes() {
    SiphonsBench x = bench("v2,0,10;v3,0,10;p0>1,0,0,9;w0=7;");
    due("cut", x.goes(0), 4);
    x.rate(0, 3);
    due("RATE", x.goes(0), 3);
    x.water(0, 0);
    x.water(1, 30);
    due("from SECOND to FIRST", x.goes(0), -3);
    x.rate(0, 9);
    x.water(1, 7);
    due("cut, from SECOND", x.goes(0), -2);
    x.water(1, 0);
    due("alike", x.goes(0), 0);
    due("nothing changes", x.of(0, 3) + x.of(1, 3) + x.count(2), 0);
    SiphonsBench m = bench("v1,0,9;v1,0,9;p0>1,7,0,9;w0=9;");
    due("above the MOUTH", m.goes(0), 2);
    m.water(0, 7);
    due("nothing above it", m.goes(0), 0);
    m.water(0, 0);
    m.water(1, 9);
    due("HEAD is the MOUTH", m.goes(0), -1);
    SiphonsBench s = bench("v1,0,9;v9,0,9;p0>1,2,0,3;k0=1,3;w0=5;");
    due("below its CREST", s.goes(0), 0);
    s.water(0, 6);
    due("at its CREST", s.goes(0), 3);
    due("it doesn't RUN by that", s.ofPipe(0, 7), 0);
    s.passes(1);
    due("it RUNS", s.goes(0), 1);
    s.kind(0, 2, 3);
    due("a VALVE", s.goes(0), 1);
    SiphonsBench c = bench("v1,10,9;v9,0,9;p0>1,10,0,2;k0=3,2;w0=7;");
    due("a CUP: twice RATE", c.goes(0), 4);
    c.kind(0, 4, 0);
    due("a WEIR: all", c.goes(0), 7);
    c.kind(0, 5, 3);
    due("a DRIP at its STEP", c.goes(0), 2);
    c.kind(0, 5, 4);
    due("a DRIP at another", c.goes(0), 0);
    c.kind(0, 2, 4);
    due("a VALVE", c.goes(0), 2);
    SiphonsBench back = bench("v9,0,9;v1,10,9;p0>1,0,10,2;w1=7;");
    for (int kind = 0; kind <= 5; kind++) {
      back.kind(0, kind, 9);
      due("back by KIND " + kind, back.goes(0), kind == 0 ? -2 : 0);
    }
    // 5 and 2 by 3 against 4 and 3 by 2, with the MOUTHS below: 1/6 times 6 by 5 is not one.
    SiphonsBench based = bench("v3,5,9;v2,4,9;p0>1,5,4,9;w0=2;w1=3;");
    due("less than one", based.goes(0), 0);
    based.water(0, 7);
    due("11/6 times 6 by 5", based.goes(0), 2);
    based.water(0, 0);
    based.water(1, 18);
    due("8 times 6 by 5, back", based.goes(0), -9);
    based.water(1, 9);
    due("7/2 times 6 by 5, back", based.goes(0), -4);
    due("-1", x.goes(1), LONGS + 1);
    due("-1", x.goes(-1), LONGS + 1);
    counts(x, 2, 0, 0, 0, 0);
  }

  private static void then() {
    SiphonsBench x = bench("v1,0,5;v1,0,9;p0>1,5,0,9;k0=1,0;t0=9;");
    due("then(0, 0, 0)", x.then(0, 0, 0), 0);
    due("then(1, 0, 0)", x.then(1, 0, 0), 5);
    due("then(1, 0, 1)", x.then(1, 0, 1), 4);
    due("then(1, 1, 0)", x.then(1, 1, 0), 0);
    due("then(2, 2, 9)", x.then(2, 2, 9), 4);
    due("then(99, 2, -1)", x.then(99, 2, -1), 99 * 9 - 14);
    due("nothing changes", x.of(0, 3) + x.count(2) + x.count(3), 0);
    SiphonsBench y = bench("v1,10,9;v9,0,9;p0>1,10,0,1;k0=1,0;w0=3;");
    due("it RUNS then", y.then(1, 1, 0), 1);
    due("then no more", y.then(3, 1, 0), 0);
    due("now neither", y.then(0, 1, 0), 0);
    due("-4 ahead of -2", x.then(-1, 3, 9), -4);
    due("-6 ahead of -2", x.then(100, 3, 9), -6);
    due("-2 ahead of -1", x.then(1, 3, 9), -2);
    due("-2", x.then(1, -1, 0), -2);
    due("-1", x.then(1, 0, 2), -1);
    due("-1", x.then(1, 1, 1), -1);
    due("-1", x.then(1, 0, -1), -1);
    counts(x, 3, 2, 0, 1, 1);
  }

  private static void over() {
    SiphonsBench x = bench("v1,0,5;v1,0,30;v1,0,5;t0=2;t1=9;w2=5;");
    due("over(0)", x.over(0), 3);
    due("over(1)", x.over(1), 4);
    due("over(2): full is not over", x.over(2), -9);
    due("over(0) again", x.over(0), 3);
    due("-1", x.over(3), -1);
    due("-1", x.over(-1), -1);
    counts(x, 2, 0, 0, 0, 0);
    SiphonsBench late = bench("v9,0,23;t0=1;w0=7;");
    due("behind 201", late.over(0), -9);
    late.water(0, 8);
    due("behind 200", late.over(0), 200);
    due("nothing changes", late.of(0, 3) + late.count(2) + late.count(3), 8);
  }

  private static void dry() {
    SiphonsBench x = bench("v1,10,9;v9,0,9;p0>1,10,0,2;w0=9;");
    due("dry(0)", x.dry(0), 5);
    due("dry(1): now", x.dry(1), 0);
    x.water(1, 1);
    due("dry(1)", x.dry(1), -9);
    due("-1", x.dry(2), -1);
    due("-1", x.dry(-1), -1);
    counts(x, 2, 0, 0, 0, 0);
    SiphonsBench late = bench("v7,20,29;v9,0,1;p0>1,20,0,1;");
    late.water(0, 201);
    due("behind 201", late.dry(0), -9);
    late.water(0, 200);
    due("behind 200", late.dry(0), 200);
  }

  private static void starts() {
    SiphonsBench x = bench("v1,10,9;v9,0,30;p0>1,12,0,2;p0>1,12,0,1;k0=1,3;t0=1;w0=2;");
    x.kind(1, 1, 6);
    due("starts(0)", x.starts(0), 4);
    due("starts(1): never so high", x.starts(1), -9);
    x.passes(4);
    due("it RUNS", x.ofPipe(0, 7), 1);
    // 4, 3, 2: broken behind two; 3, 4, 5, 6: it RUNS again.
    due("it must BREAK first", x.starts(0), 6);
    due("-1", x.starts(2), -1);
    due("-1", x.starts(-1), -1);
    counts(x, 2, 0, 0, 0, 0);
    SiphonsBench late = bench("v9,0,23;v9,0,9;p0>1,1,0,1;k0=1,9;k0=3,0;t0=1;w0=6;");
    due("behind 201", late.starts(0), -9);
    late.water(0, 7);
    due("behind 200", late.starts(0), 200);
  }

  private static void turns() {
    SiphonsBench x = bench("v1,10,9;v9,0,30;p0>1,12,0,2;k0=1,3;t0=1;w0=2;");
    due("turns(0, 0)", x.turns(0, 0), 0);
    due("turns(0, 3)", x.turns(0, 3), 0);
    due("turns(0, 4)", x.turns(0, 4), 1);
    due("turns(0, 9)", x.turns(0, 9), 1);
    due("turns(0, 10)", x.turns(0, 10), 2);
    due("turns(0, 99)", x.turns(0, 99), 16);
    due("nothing changes", x.count(2) + x.count(5), 0);
    due("-1", x.turns(1, -1), -1);
    due("-1", x.turns(-1, 1), -1);
    due("-4", x.turns(0, -1), -4);
    due("-6", x.turns(0, 100), -6);
    counts(x, 2, 0, 0, 1, 1);
  }

  private static void round() {
    SiphonsBench x = bench("v1,0,5;t0=2;");
    due("round(0)", x.round(0), 6);
    due("round(1)", x.round(1), 3);
    due("round(2)", x.round(2), 3);
    due("-2", x.round(3), -2);
    due("-2", x.round(-1), -2);
    counts(x, 0, 2, 0, 0, 0);
    SiphonsBench late = bench("v9,0,22;t0=1;");
    for (int what = 0; what <= 2; what++) {
      due("198 to fill, 3 round", late.round(what), -9);
    }
    late.water(0, 1);
    due("round(0)", late.round(0), 200);
    due("round(1)", late.round(1), 197);
    due("round(2)", late.round(2), 3);
    // The cup's WATER goes 2, 3, .. 7, 3, 0 and so on, three STEPS for each STEP modulo 3.
    SiphonsBench runs = bench("v1,10,7;v9,0,1;p0>1,10,0,2;k0=3,0;t0=1;t1=0;w1=9;");
    int[] cup = {0, 1, 2, 3, 4, 5, 6, 3, 0};
    for (int i = 0; i < cup.length; i++) {
      due("the cup behind " + i, runs.then(i, 0, 0), cup[i]);
    }
    due("it RUNS then", runs.then(7, 1, 0), 1);
    due("round(0)", runs.round(0), 24);
    due("round(1)", runs.round(1), 0);
    due("round(2)", runs.round(2), 24);
    // At STEP 9999 the STEP stays, so it is modulo 3 as it was.
    for (int i = 0; i < 103; i++) {
      runs.passes(99);
    }
    runs.water(0, 0);
    runs.kind(0, 3, 0);
    due("round(0) at 9999", runs.round(0), 8);
    SiphonsBench runsOnly = bench("v1,10,9;v9,0,1;p0>1,10,0,1;k0=1,4;t0=1;w0=3;w1=9;");
    // 3, 4, then 5 starts it: 4 RUNS and stays; only what RUNS tells the first 4 from it.
    due("round(0)", runsOnly.round(0), 5);
    due("round(1)", runsOnly.round(1), 2);
  }

  private static void least() {
    SiphonsBench x = bench("v1,0,10;v9,0,30;p0>1,2,0,3;k0=1,3;t0=1;");
    due("least(0, 0, 1)", x.least(0, 0, 1), 5);
    due("least(0, 0, 3)", x.least(0, 0, 3), 3);
    due("least(0, 0, 60)", x.least(0, 0, 60), 0);
    due("least(1, 0, 1): of another", x.least(1, 0, 1), -9);
    x.rate(0, 9);
    due("it BREAKS in that STEP", x.least(0, 0, 1), -9);
    x.rate(0, 3);
    x.kind(0, 0, 3);
    due("a PIPE never RUNS", x.least(0, 0, 60), -9);
    due("nothing changes", x.of(0, 3) + x.count(2), 0);
    SiphonsBench full = bench("v1,0,10;v9,0,30;p0>1,2,0,3;k0=1,7;");
    due("all that it holds", full.least(0, 0, 1), 10);
    full.kind(0, 1, 8);
    due("more than it holds", full.least(0, 0, 60), -9);
    SiphonsBench runs = bench("v1,10,9;v9,0,9;p0>1,10,0,2;k0=1,7;w0=9;s1;");
    due("it RUNS as it is", runs.least(0, 0, 1), 3);
    due("-1 the vessel", x.least(2, 0, 0), -1);
    due("-1 the pipe", x.least(0, 1, 61), -1);
    due("-1", x.least(-1, 0, 1), -1);
    due("-1", x.least(0, -1, 1), -1);
    due("-4", x.least(0, 0, 0), -4);
    due("-6", x.least(0, 0, 61), -6);
    counts(x, 4, 0, 0, 1, 1);
  }

  private static void tapBest() {
    SiphonsBench x = bench("v1,0,10;v1,0,10;p0>1,4,0,9;t0=7;");
    due("tapBest(0, 0, 1, 0)", x.tapBest(0, 0, 1, 0), 9);
    // 9 above 0: four go over.
    due("tapBest(0, 0, 1, 1)", x.tapBest(0, 0, 1, 1), 5);
    due("no step: of several the least", x.tapBest(1, 0, 0, 0), 0);
    due("the TAP is as it was", x.of(0, 4), 7);
    SiphonsBench y = bench("v1,0,10;v1,0,9;");
    due("the rim", y.tapBest(0, 0, 5, 0), 2);
    due("the rim", y.tapBest(0, 0, 5, 1), 10);
    due("no step", y.tapBest(0, 0, 0, 1), 0);
    due("no step", y.tapBest(0, 0, 0, 0), 0);
    due("99", y.tapBest(0, 0, 99, 0), 1);
    due("another", y.tapBest(0, 1, 99, 0), 0);
    // More from the tap makes the siphon start, and then there is less.
    SiphonsBench z = bench("v1,10,9;v9,0,9;p0>1,10,0,9;k0=1,6;");
    due("just not at the CREST", z.tapBest(0, 0, 1, 0), 6);
    due("just not at the CREST", z.tapBest(0, 0, 1, 1), 6);
    due("-1 the one", x.tapBest(2, 0, -1, 2), -1);
    due("-1 the other", x.tapBest(0, -1, 100, 2), -1);
    due("-4 ahead of -2", x.tapBest(0, 0, -1, 2), -4);
    due("-6 ahead of -2", x.tapBest(0, 0, 100, 2), -6);
    due("-2", x.tapBest(0, 0, 1, 2), -2);
    due("-2", x.tapBest(0, 0, 1, -1), -2);
    counts(x, 2, 2, 0, 1, 1);
  }

  private static void matters() {
    SiphonsBench x = bench("v1,0,5;v1,0,30;p0>1,0,0,1;p0>1,0,0,2;w0=5;t0=3;");
    due("matters(0): all alike", x.matters(0), 0);
    // With both nothing is lost; without the first 1, without the second 2.
    due("matters(1)", x.matters(1), 1);
    SiphonsBench first = bench("v1,0,5;v1,0,30;p0>1,0,0,2;p0>1,0,0,1;w0=5;t0=3;");
    due("the first is missed most", first.matters(1), 0);
    due("matters(99)", first.matters(99), 0);
    due("the first", first.then(1, 0, 1), 3);
    SiphonsBench less = bench("v1,20,9;v1,0,1;v1,0,30;p0>2,20,0,1;p0>1,20,0,9;w0=9;w1=1;");
    due("less is lost without it", less.matters(1), 1);
    SiphonsBench alike = bench("v1,0,9;v1,0,9;p0>1,0,0,1;p0>1,0,0,1;w0=9;");
    due("of several the least", alike.matters(9), 0);
    due("no PIPES", bench("v1,0,9;").matters(9), -9);
    SiphonsBench runs = bench("v1,10,9;v9,0,1;p0>1,10,0,1;k0=1,0;p0>1,10,0,1;k1=2,0;w1=9;w0=9;");
    runs.passes(1);
    due("it RUNS, and is left out", runs.matters(3), 0);
    due("it RUNS yet", runs.count(5), 1);
    due("-4", x.matters(-1), -4);
    due("-6", x.matters(100), -6);
    due("-4 of none", new SiphonsBench().matters(-1), -4);
    due("-6 of none", new SiphonsBench().matters(100), -6);
    counts(x, 0, 0, 0, 1, 1);
  }

  private static void order() {
    SiphonsBench x = bench("v2,3,9;v4,5,9;v3,5,9;v1,0,9;w0=5;w1=2;w3=9;w2=2;");
    // 5 and 1/2; 5 and 1/2; 5 and 2/3; 9.
    int[] want = {3, 2, 0, 1};
    for (int i = 0; i < 4; i++) {
      due("order(" + i + ")", x.order(i), want[i]);
    }
    due("-1", x.order(4), -1);
    due("-1", x.order(-1), -1);
    due("-1", x.order(MOST_INT), -1);
    counts(x, 3, 0, 0, 0, 0);
  }

  private static void meets() {
    SiphonsBench x = bench("v2,3,9;v4,5,9;v3,0,9;w0=5;w1=2;t2=1;");
    due("now", x.meets(0, 1), 0);
    due("meets(0, 2): 27 at most, 33/2 wanted", x.meets(0, 2), -9);
    x.water(0, 0);
    due("3 is 9 by 3", x.meets(0, 2), 9);
    due("the other way", x.meets(2, 0), 9);
    due("-1 one twice", x.meets(1, 1), -1);
    due("-1", x.meets(0, 3), -1);
    due("-1", x.meets(-1, 0), -1);
    counts(x, 3, 0, 0, 0, 0);
    SiphonsBench late = bench("v9,0,30;v9,0,30;t0=1;");
    late.water(1, 201);
    due("behind 201", late.meets(0, 1), -9);
    late.water(1, 200);
    due("behind 200", late.meets(0, 1), 200);
  }

  private static void shown() {
    SiphonsBench x = bench("v4,6,10;v3,0,9;v9,20,30;w0=30;");
    due("13.5", x.shown(0), 0x41580000L);
    due("0.0", x.shown(1), 0);
    x.water(1, 1);
    due("a third", x.shown(1), 0x3EAAAAABL);
    for (int water = 0; water <= 270; water += 7) {
      x.water(2, water);
      due("20 and " + water + " ninths", x.shown(2),
          Float.floatToIntBits((float) water / 9.0f + 20.0f));
    }
    for (int water = 0; water <= 27; water++) {
      x.water(1, water);
      due(water + " thirds", x.shown(1), Float.floatToIntBits((float) water / 3.0f));
    }
    due("-1", x.shown(3), LONGS + 1);
    due("-1", x.shown(-1), LONGS + 1);
    counts(x, 2, 0, 0, 0, 0);
  }

  private static void work() {
    SiphonsBench x = bench("v3,2,9;v7,1,9;v1,0,9;");
    due("0.0", x.work(0), 0);
    due("0", x.work(1), 0);
    x.water(0, 7);
    due("of one", x.work(0), Double.doubleToLongBits(7.0 * (2.0 + 7.0 / 3.0 / 2.0)));
    due("of one, cut", x.work(1), 22);
    x.water(1, 10);
    x.water(2, 9);
    double sum = 0.0 + 7.0 * (2.0 + 7.0 / 3.0 / 2.0);
    sum += 10.0 * (1.0 + 10.0 / 7.0 / 2.0);
    sum += 9.0 * (0.0 + 9.0 / 1.0 / 2.0);
    due("of three", x.work(0), Double.doubleToLongBits(sum));
    due("of three, cut", x.work(1), 79);
    x.water(0, 0);
    x.water(1, 0);
    x.water(2, 1);
    due("a half", x.work(0), Double.doubleToLongBits(0.5));
    due("a half, cut", x.work(1), 0);
    SiphonsBench small = bench("v9,0,1;w0=1;");
    due("a ninth's half", small.work(0), Double.doubleToLongBits(1.0 / 9.0 / 2.0));
    due("a ninth", small.shown(0), Float.floatToIntBits(1.0f / 9.0f));
    due("-2", x.work(2), LONGS + 2);
    due("-2", x.work(-1), LONGS + 2);
    counts(x, 0, 2, 0, 0, 0);
  }

  private static void leaks(SiphonsBench x, int t, int n, long above, long below) {
    due("leak(" + t + ", " + n + ", 0)", x.leak(t, n, 0), above);
    due("leak(" + t + ", " + n + ", 1)", x.leak(t, n, 1), below);
  }

  private static void leak() {
    SiphonsBench one = bench("v1,0,5;v1,0,30;p0>1,0,0,2;w0=5;t0=1;");
    leaks(one, 4, 1, 1, 4);
    leaks(one, 20, 1, 1, 20);
    SiphonsBench either = bench("v1,0,5;v1,0,30;p0>1,0,0,2;p0>1,0,0,2;w0=5;t0=1;");
    leaks(either, 3, 1, 1, 9);
    SiphonsBench both = bench("v1,0,5;v1,0,30;p0>1,0,0,1;p0>1,0,0,1;w0=5;t0=2;");
    leaks(both, 4, 1, 7, 16);
    SiphonsBench idle = bench("v1,0,5;v1,0,30;p0>1,0,0,2;p1>0,30,5,2;k1=2,0;w0=5;t0=1;");
    leaks(idle, 6, 1, 1, 6);
    leaks(bench("v1,0,5;v1,0,30;p0>1,0,0,2;"), 7, 30, 0, 1);
    leaks(bench("v1,0,5;v1,0,30;p0>1,0,0,2;t1=9;t0=9;"), 2, 30, 1, 1);
    leaks(bench("v1,0,5;t0=9;"), 2, 1, 1, 1);
    SiphonsBench late = bench("v1,0,30;t0=1;");
    leaks(late, 2, 30, 0, 1);
    late.water(0, 1);
    leaks(late, 2, 29, 0, 1);
    leaks(late, 2, 30, 1, 1);
    SiphonsBench eight = bench("v1,20,9;v9,0,9;w0=9;t0=1;");
    for (int i = 0; i < 8; i++) {
      eight.pipe(0, 1, 20, 0, 9);
    }
    leaks(eight, 20, 1, 1, 25600000000L);
    SiphonsBench runs = bench("v1,10,9;v9,0,9;p0>1,10,0,9;k0=1,0;w0=9;t0=9;w1=9;s1;t0=9;");
    due("it RUNS", runs.count(5), 1);
    // It would carry eight or nine away in each STEP; without it all of that is lost.
    due("leak of one that RUNS", runs.leak(5, 1, 1), 5);
    due("-4 t", one.leak(1, 31, 2), LONGS + 4);
    due("-4 n", one.leak(21, 0, 2), LONGS + 4);
    due("-6 t", one.leak(21, 1, 2), LONGS + 6);
    due("-6 n", one.leak(2, 31, 2), LONGS + 6);
    due("-2", one.leak(2, 1, 2), LONGS + 2);
    due("-2", one.leak(2, 1, -1), LONGS + 2);
    counts(one, 0, 2, 0, 2, 2);
  }

  private static void all() {
    SiphonsBench x = bench("v1,0,5;v2,3,9;w0=4;w1=7;t0=3;");
    due("all()", x.all(), 11);
    x.passes(2);
    due("with THE SUMP", x.all(), 17);
    due("THE SUMP", x.count(3), 5);
  }

  private static void judge() {
    SiphonsBench x = bench("v1,0,9;v1,0,9;t0=2;t1=1;");
    fill(x, 0, 0, 2, 4, 6, 8, 9, 9);
    due("all so", x.judge(0), -9);
    fill(x, 1, 0, 2, 5, 6, 9);
    due("the third", x.judge(1), 2);
    fill(x, 1, 0, LEAST_INT, 4, 7);
    due("skipped", x.judge(1), 3);
    fill(x, 1, LEAST_INT, LEAST_INT);
    due("all skipped", x.judge(1), -9);
    fill(x, 1, 1);
    due("now", x.judge(1), 0);
    x.list(2, 0);
    due("empty", x.judge(2), -9);
    fill(x, 3, 0, 2, 4, 6, 8, 9, 9, 9, 9, 9, 9, 9, 9, 9, 9, 9, 9, 9, 9, 8);
    due("the twentieth", x.judge(3), 19);
    due("nothing changes", x.count(2) + x.of(0, 3), 0);
    SiphonsBench none = new SiphonsBench();
    due("no VESSEL 0", none.judge(0), -1);
    none.vessel(1, 0, 1);
    due("missing", none.judge(0), -11);
    due("-1", none.judge(4), -1);
    due("-1", none.judge(-1), -1);
    counts(none, 3, 0, 0, 0, 0);
  }

  private static void whatIs() {
    // Six above the MOUTH, 16 and 0 the HEADS; CREST of a SIPHON 12, of a CUP 18.
    SiphonsBench x = bench("v1,10,9;v9,0,9;p0>1,10,0,1;k0=0,1;w0=6;");
    fill(x, 0, 1, 2, 3, 4, 5, 6, 6, 6, 6);
    due("as by RATE: PIPE, SIPHON, VALVE", x.whatIs(0, 0, 0), 7);
    due("any FIGURE of a PIPE", x.whatIs(0, 0, 1), 1023);
    fill(x, 1, 6);
    due("a WEIR", x.whatIs(1, 0, 0), 16);
    due("no FIGURE of a PIPE", x.whatIs(1, 0, 1), 0);
    fill(x, 1, 0, 0);
    due("a CUP that isn't full, a DRIP", x.whatIs(1, 0, 0), 8 + 32);
    fill(x, 2, 1, 2, 3, 4, 5, 6, 6, 6, 6, 77, 78);
    due("those behind the ninth", x.whatIs(2, 0, 0), 7);
    fill(x, 2, 1, 2, 3, 4, 5, 6, 6, 6, 5);
    due("the ninth", x.whatIs(2, 0, 0), 0);
    fill(x, 2, 1, 1);
    due("the second", x.whatIs(2, 0, 0), 0);
    fill(x, 2, LEAST_INT);
    due("the least int is none", x.whatIs(2, 0, 0), 0);
    x.list(2, 0);
    due("empty", x.whatIs(2, 0, 0), 63);
    due("empty", x.whatIs(2, 0, 1), 1023);
    x.kind(0, 1, 1);
    due("FIGURES of a SIPHON: CREST 16 at most", x.whatIs(0, 0, 1), 63);
    x.kind(0, 3, 3);
    fill(x, 1, 2, 4, 6, 6);
    due("a CUP: twice RATE", x.whatIs(1, 0, 0), 8);
    due("FIGURES of a CUP", x.whatIs(1, 0, 1), 1016);
    x.kind(0, 5, 3);
    due("FIGURES of a DRIP", x.whatIs(0, 0, 1), 1 + 8 + 64 + 512);
    due("KIND is as it was", x.ofPipe(0, 0), 5);
    due("FIGURE is as it was", x.ofPipe(0, 1), 3);
    due("RATE is as it was", x.ofPipe(0, 6), 1);
    whatIsThatRunsOrGoesBack(x);
    due("-1", x.whatIs(4, 0, 2), -1);
    due("-1", x.whatIs(0, 1, 2), -1);
    due("-1", x.whatIs(-1, 0, 0), -1);
    due("-1", x.whatIs(0, -1, 0), -1);
    due("-2 ahead of -11", x.whatIs(3, 0, 2), -2);
    due("-2", x.whatIs(0, 0, -1), -2);
    due("-11", x.whatIs(3, 0, 0), -11);
    counts(x, 4, 2, 0, 0, 0);
  }

  private static void whatIsThatRunsOrGoesBack(SiphonsBench x) {
    x.kind(0, 1, 1);
    x.passes(1);
    due("it RUNS", x.count(5), 1);
    fill(x, 1, 2, 4);
    due("RUNS is as it is: a CUP", x.whatIs(1, 0, 0), 8);
    fill(x, 1, 1, 2);
    due("RUNS is as it is: any FIGURE", x.whatIs(1, 0, 1), 1023);
    SiphonsBench back = bench("v9,0,9;v1,10,9;p0>1,0,10,2;w1=2;");
    fill(back, 0, -1, -2, -2);
    due("from SECOND to FIRST", back.whatIs(0, 0, 0), 1);
    fill(back, 0, 0);
    due("all the others", back.whatIs(0, 0, 0), 62);
  }

  private static void lots() {
    // The first DRAWS of the seed 0 below ten: 3, 7, 6, 9.
    SiphonsBench x = bench("v1,0,9;t0=1;");
    due("lots(1, 0, 0)", x.lots(1, 0, 0), 24);
    due("lots(2, 0, 0)", x.lots(2, 0, 0), 24 + 28);
    due("lots(3, 0, 0)", x.lots(3, 0, 0), 24 + 28 + 27);
    due("lots(4, 0, 0)", x.lots(4, 0, 0), 24 + 28 + 27 + 30);
    due("lots(4, 0, 1)", x.lots(4, 0, 1), 0);
    due("nothing changes", x.of(0, 3) + x.count(2) + x.count(3), 0);
    // Two vessels: the DRAWS go by turns. The siphon RUNS on if there is more than the tap gives.
    SiphonsBench y = bench("v1,10,9;v9,0,1;p0>1,10,0,1;k0=1,0;t0=1;");
    due("lots(1, 0, 1)", y.lots(1, 0, 1), 1);
    due("lots(2, 0, 1)", y.lots(2, 0, 1), 2);
    due("lots(1, 0, 0): the second holds 9, and has 7", y.lots(1, 0, 0), 28);
    due("lots(2, 0, 0): and has 9", y.lots(2, 0, 0), 28 + 30);
    due("-4", x.lots(0, 0, 2), -4);
    due("-6", x.lots(21, 0, 2), -6);
    due("-2", x.lots(1, 0, 2), -2);
    due("-2", x.lots(20, 0, -1), -2);
    counts(x, 0, 2, 0, 1, 1);
  }

  private static void list() {
    SiphonsBench x = bench("v1,0,9;");
    due("list(0, 2)", x.list(0, 2), 1);
    due("put", x.put(0, 1, 5), 1);
    due("list(0, 20)", x.list(0, 20), 1);
    due("all 0", x.judge(0), -9);
    due("place 19", x.put(0, 19, 1), 1);
    due("judge", x.judge(0), 19);
    due("list(3, 0)", x.list(3, 0), 1);
    due("no place", x.put(3, 0, 1), -13);
    due("-1", x.list(4, 21), -1);
    due("-1", x.list(-1, -1), -1);
    due("-6", x.list(0, 21), -6);
    due("-14", x.list(0, -1), -14);
    due("-14", x.list(0, LEAST_INT), -14);
    due("it is as it was", x.judge(0), 19);
    counts(x, 2, 0, 0, 0, 1);
  }

  private static void put() {
    SiphonsBench x = bench("v1,0,9;w0=7;");
    x.list(1, 2);
    due("put(1, 0, 7)", x.put(1, 0, 7), 1);
    due("put(1, 1, 6)", x.put(1, 1, 6), 1);
    due("judge", x.judge(1), 1);
    due("put(1, 1, 7)", x.put(1, 1, 7), 1);
    due("judge", x.judge(1), -9);
    due("-13", x.put(1, 2, 7), -13);
    due("-13", x.put(1, -1, 7), -13);
    due("-11", x.put(0, 0, 7), -11);
    due("-1", x.put(4, 0, 7), -1);
    due("-1", x.put(-1, 0, 7), -1);
    counts(x, 2, 0, 0, 0, 0);
  }

  private static void lays() {
    SiphonsBench x = bench("v1,0,9;v1,0,9;v1,0,9;w0=7;w1=5;w2=3;");
    x.list(0, 4);
    due("lays(0, 1)", x.lays(0, 1), 3);
    holds(x, 0, 0, 7, 5, 3);
    x.list(0, 4);
    due("lays(0, 2)", x.lays(0, 2), -13);
    holds(x, 0, 0, 0, 7, 5);
    x.list(0, 4);
    due("lays(0, -1)", x.lays(0, -1), -13);
    due("lays(0, 4)", x.lays(0, 4), -13);
    due("lays(0, most)", x.lays(0, MOST_INT), -13);
    due("lays(0, least)", x.lays(0, LEAST_INT), -13);
    holds(x, 0, 0, 0, 0, 0);
    due("-11", x.lays(1, 9), -11);
    due("-1", x.lays(4, 0), -1);
    due("-1", x.lays(-1, 0), -1);
    SiphonsBench none = new SiphonsBench();
    none.list(0, 0);
    due("no VESSELS", none.lays(0, 5), 0);
    counts(x, 2, 0, 0, 0, 0);
  }

  /** What a LIST holds is seen by judge alone; a place that was looked at is skipped from then on. */
  private static void holds(SiphonsBench x, int list, int... values) {
    int was = x.of(0, 3);
    for (int i = 0; i < values.length; i++) {
      x.water(0, values[i]);
      int first = x.judge(list);
      due("place " + i + " is " + values[i], first == -9 || first > i ? 1 : 0, 1);
      x.put(list, i, LEAST_INT);
    }
    x.water(0, was);
  }

  private static void rack() {
    SiphonsBench x = bench("v1,0,9;v1,0,9;p0>1,0,0,1;");
    due("rack(0, 0, 9)", x.rack(0, 0, 9), 1);
    due("all empty", x.racked(0, 8), -9);
    due("no place", x.racked(0, 9), -13);
    x.racks(0, 8, 0);
    due("laid", x.racked(0, 8), 0);
    due("-1", x.rack(3, 6, 10), -1);
    due("-1", x.rack(-1, 0, 0), -1);
    due("-2", x.rack(0, 6, 10), -2);
    due("-2", x.rack(0, -1, -1), -2);
    due("-6", x.rack(0, 5, 10), -6);
    due("-14", x.rack(0, 5, -1), -14);
    due("as it was", x.racked(0, 8), 0);
    due("rack(0, 5, 9)", x.rack(0, 5, 9), 1);
    due("empty again", x.racked(0, 8), -9);
    due("rack(2, 5, 0)", x.rack(2, 5, 0), 1);
    due("no place", x.racked(2, 0), -13);
    due("-11", x.racked(1, 0), -11);
    counts(x, 2, 2, 0, 0, 1);
  }

  private static void racks() {
    SiphonsBench x = bench("v1,0,9;v1,0,9;p0>1,0,0,1;");
    String[] under = {"012345", "13", "245", "3", "4", "5"};
    for (int made = 0; made <= 5; made++) {
      x.rack(0, made, 1);
      for (int kind = 0; kind <= 5; kind++) {
        x.kind(0, kind, 0);
        x.racks(0, 0, -1);
        boolean fits = under[made].indexOf('0' + kind) >= 0;
        due("KIND " + kind + " into one for " + made, x.racks(0, 0, 0), fits ? 1 : -16);
        due("it lies there", x.racked(0, 0), fits ? kind : -9);
      }
    }
    x.kind(0, 4, 0);
    due("nothing", x.racks(0, 0, -1), 1);
    due("-16 leaves what lies there", x.racks(0, 0, 0), -16);
    due("-1 the rack", x.racks(3, 0, 0), -1);
    due("-1 the rack", x.racks(-1, 0, 0), -1);
    due("-1 the pipe", x.racks(0, 0, 1), -1);
    due("-1 the pipe", x.racks(0, 0, -2), -1);
    due("-1 ahead of -11", x.racks(1, 0, 1), -1);
    due("-11", x.racks(1, 5, 0), -11);
    due("-13 ahead of -16", x.racks(0, 1, 0), -13);
    due("-13", x.racks(0, -1, -1), -13);
    counts(x, 5, 0, 0, 0, 0);
  }

  private static void racked() {
    SiphonsBench x = bench("v1,0,9;v1,0,9;p0>1,0,0,1;k0=3,0;");
    x.rack(1, 1, 2);
    x.racks(1, 1, 0);
    due("racked(1, 1)", x.racked(1, 1), 3);
    x.kind(0, 5, 0);
    due("as it was when laid", x.racked(1, 1), 3);
    due("nothing", x.racked(1, 0), -9);
    due("-13", x.racked(1, 2), -13);
    due("-13", x.racked(1, -1), -13);
    due("-11", x.racked(0, 0), -11);
    due("-1", x.racked(3, 0), -1);
    due("-1", x.racked(-1, 0), -1);
    counts(x, 2, 0, 0, 0, 0);
  }

  private static void like() {
    SiphonsBench x = bench("v1,0,9;v1,0,9;p0>1,0,0,1;k0=3,0;");
    x.rack(0, 1, 3);
    x.racks(0, 2, 0);
    due("like(1, 0)", x.like(1, 0), 3);
    due("what lies there", x.racked(1, 2), 3);
    due("nothing", x.racked(1, 0), -9);
    x.racks(0, 0, 0);
    due("as that was then", x.racked(1, 0), -9);
    x.racks(1, 1, 0);
    due("and apart from it", x.racked(0, 1), -9);
    x.kind(0, 0, 0);
    due("made for the same", x.racks(1, 1, 0), -16);
    due("like itself", x.like(0, 0), 3);
    due("like itself", x.racked(0, 2), 3);
    due("-11 the other", x.like(0, 2), -11);
    due("-11 itself", x.like(2, 2), -11);
    due("as it was", x.racked(0, 2), 3);
    x.rack(2, 0, 0);
    due("of none", x.like(0, 2), 0);
    due("no place", x.racked(0, 0), -13);
    due("-1", x.like(3, 0), -1);
    due("-1", x.like(0, 3), -1);
    due("-1", x.like(-1, 0), -1);
    due("-1", x.like(0, -1), -1);
    counts(x, 4, 0, 0, 0, 0);
  }

  private static void image() {
    SiphonsBench x = bench("v1,0,5;t0=2;s4;");
    due("image()", x.image(), 4);
    x.passes(3);
    due("image()", x.image(), 7);
    due("nothing changes", x.of(0, 3), 5);
    x.passes(1);
    due("the later one", x.on(), 7);
    SiphonsBench empty = new SiphonsBench();
    due("image() of nothing", empty.image(), 0);
    empty.vessel(1, 0, 1);
    due("on()", empty.on(), 0);
    due("count(0)", empty.count(0), 0);
  }

  private static void on() {
    SiphonsBench x = bench("v1,10,5;v9,0,9;p0>1,10,0,1;k0=1,0;t0=3;w0=5;s2;");
    due("-3", x.on(), -3);
    due("it RUNS", x.count(5), 1);
    due("WATER", x.of(0, 3), 5);
    due("THE SUMP", x.count(3), 4);
    x.letter('s');
    x.list(0, 1);
    x.rack(0, 0, 1);
    due("image()", x.image(), 2);
    x.put(0, 0, 5);
    x.racks(0, 0, 0);
    x.letter('1');
    x.water(0, 2);
    x.tap(0, 9);
    x.kind(0, 4, 4);
    x.rate(0, 9);
    x.vessel(2, 20, 2);
    x.water(2, 4);
    x.tap(2, 9);
    x.pipe(2, 1, 20, 0, 2);
    x.kind(1, 1, 1);
    x.passes(9);
    due("the second RUNS", x.count(5), 2);
    due("on()", x.on(), 2);
    int[] vessel = {1, 10, 5, 5, 3};
    for (int what = 0; what < 5; what++) {
      due("of(0, " + what + ")", x.of(0, what), vessel[what]);
    }
    int[] pipe = {1, 0, 0, 1, 10, 0, 1, 1, 11};
    for (int what = 0; what <= 8; what++) {
      due("ofPipe(0, " + what + ")", x.ofPipe(0, what), pipe[what]);
    }
    int[] counts = {2, 1, 2, 4, 2, 1};
    for (int what = 0; what <= 5; what++) {
      due("count(" + what + ")", x.count(what), counts[what]);
    }
    due("LISTS are not of it", x.judge(0), -9);
    due("RACKS are not of it", x.racked(0, 0), 1);
    // What comes now stands where something else stood before.
    due("a VESSEL more", x.vessel(3, 3, 3), 2);
    due("its WATER", x.of(2, 3), 0);
    due("its TAP", x.of(2, 4), 0);
    due("a PIPE more", x.pipe(2, 1, 3, 0, 1), 1);
    due("its KIND", x.ofPipe(1, 0), 0);
    due("its FIGURE", x.ofPipe(1, 1), 0);
    due("it doesn't RUN", x.count(5), 1);
    x.passes(9);
    due("on() again", x.on(), 2);
    due("WATER", x.of(0, 3), 5);
    counts(x, 0, 0, 1, 0, 0);
  }

  private static void count() {
    SiphonsBench x = bench("v1,10,5;v9,0,9;v1,0,1;p0>1,10,0,1;p0>1,10,0,1;k1=1,0;t0=4;w0=5;s2;");
    x.letter('a');
    int[] want = {3, 2, 2, 4, 1, 2};
    for (int what = 0; what <= 5; what++) {
      due("count(" + what + ")", x.count(what), want[what]);
    }
    int[] none = {-1, 6, 7, 8, 9, 10, 17, 18, LEAST_INT, MOST_INT};
    for (int what : none) {
      due("count(" + what + ")", x.count(what), -9);
    }
    counts(x, 0, 0, 0, 0, 0);
    x.over(3);
    x.of(0, 5);
    x.of(0, 5);
    x.on();
    x.letter(-1);
    x.passes(100);
    x.passes(100);
    x.put(0, 0, 0);
    counts(x, 1, 2, 1, 1, 2);
  }

  private static void keep(int number) {
    promise = number;
    switch (number) {
      case 1 -> newObject();
      case 2 -> letter();
      case 3 -> tells();
      case 4 -> vessel();
      case 5 -> pipe();
      case 6 -> kind();
      case 7 -> rate();
      case 8 -> water();
      case 9 -> tap();
      case 10 -> passes();
      case 11 -> of();
      case 12 -> ofPipe();
      case 13 -> level();
      case 14 -> goes();
      case 15 -> then();
      case 16 -> over();
      case 17 -> dry();
      case 18 -> starts();
      case 19 -> turns();
      case 20 -> round();
      case 21 -> least();
      case 22 -> tapBest();
      case 23 -> matters();
      case 24 -> order();
      case 25 -> meets();
      case 26 -> shown();
      case 27 -> work();
      case 28 -> leak();
      case 29 -> all();
      case 30 -> judge();
      case 31 -> whatIs();
      case 32 -> lots();
      case 33 -> list();
      case 34 -> put();
      case 35 -> lays();
      case 36 -> rack();
      case 37 -> racks();
      case 38 -> racked();
      case 39 -> like();
      case 40 -> image();
      case 41 -> on();
      default -> count();
    }
  }

  public static void main(String[] args) {
    int passed = 0;
    int failed = 0;
    for (int number = 1; number <= 42; number++) {
      keep(number);
      if (wrong[number] == 0 && checks[number] > 0) {
        passed++;
      } else {
        failed++;
      }
    }
    System.out.println("PromiseTests: " + passed + " promises hold, " + failed + " do not");
    if (failed != 0) {
      System.exit(1);
    }
  }
}
