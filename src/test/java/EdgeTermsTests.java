import java.lang.reflect.Field;

/**
 * The edges that part I of the document's Terms names, VESSELS, PIPES, a STEP, letters, in its order: each
 * sentence by a test of its own. Ahead of them how many calls there are.
 */
public final class EdgeTermsTests extends Edge {
  private static long goes(String text) {
    return bench(text).goes(0);
  }

  /** What a text answers, told to an object of its own. */
  private static int tells(String text) {
    return tell(new SiphonsBench(), text);
  }

  /** After so many STEPS, WATER of the VESSELS. */
  private static SiphonsBench behind(String text, int steps, int... waters) {
    SiphonsBench x = bench(text);
    if (steps > 0) {
      x.passes(steps);
    }
    for (int v = 0; v < waters.length; v++) {
      due(x.of(v, 3), waters[v]);
    }
    return x;
  }

  private static void vessels() {
    says("VESSELS 0 .. as they come", () -> {
      SiphonsBench x = new SiphonsBench();
      due(x.of(0, 0), -1);
      due(x.vessel(1, 0, 1), 0);
      due(x.vessel(2, 0, 1), 1);
      due(x.of(0, 0), 1);
      due(x.of(1, 0), 2);
      due(x.of(2, 0), -1);
    });
    says("(5 at most)", () -> {
      SiphonsBench x = new SiphonsBench();
      for (int v = 0; v < 5; v++) {
        due(x.vessel(1, 0, 1), v);
      }
      due(x.vessel(1, 0, 1), -6);
      due(x.count(0), 5);
    });
    says("AREA (1 .. 9)", () -> {
      due(new SiphonsBench().vessel(0, 0, 1), -4);
      due(bench("v1,0,1;").of(0, 0), 1);
      due(bench("v9,0,1;").of(0, 0), 9);
      due(new SiphonsBench().vessel(10, 0, 1), -6);
    });
    says("BASE (0 .. 20)", () -> {
      due(new SiphonsBench().vessel(1, -1, 1), -4);
      due(bench("v1,0,1;").of(0, 1), 0);
      due(bench("v1,20,1;").of(0, 1), 20);
      due(new SiphonsBench().vessel(1, 21, 1), -6);
    });
    says("RIM (1 .. 30: how high above BASE)", () -> {
      due(new SiphonsBench().vessel(1, 0, 0), -4);
      due(bench("v1,0,1;").of(0, 2), 1);
      SiphonsBench x = bench("v1,20,30;v1,0,1;");
      due(x.of(0, 2), 30);
      due(x.water(0, 30), 0);
      due(x.pipe(0, 1, 50, 0, 1), 0);
      due(new SiphonsBench().vessel(1, 0, 31), -6);
    });
    says("WATER (0 .. AREA times RIM; 0 at first)", () -> {
      SiphonsBench x = bench("v3,2,7;");
      due(x.of(0, 3), 0);
      due(x.water(0, -1), -4);
      due(x.water(0, 21), 0);
      due(x.water(0, 22), -6);
      due(x.water(0, 0), 21);
    });
    says("TAP (0 .. 9: how much comes in a STEP; 0 at first)", () -> {
      SiphonsBench x = bench("v3,2,7;");
      due(x.of(0, 4), 0);
      due(x.tap(0, -1), -4);
      due(x.tap(0, 10), -6);
      x.passes(1);
      due(x.of(0, 3), 0);
      due(x.tap(0, 9), 0);
      x.passes(2);
      due(x.of(0, 3), 18);
    });
    says("LEVEL, a fraction: BASE and WATER by AREA together", () -> {
      due(bench("v6,3,5;w0=9;").level(0, 0), 9);
      due(bench("v6,3,5;w0=9;").level(0, 1), 2);
    });
  }

  private static void pipes() {
    says("PIPES 0 .. as they come (8 at most)", () -> {
      SiphonsBench x = bench("v1,0,1;v1,0,1;");
      due(x.ofPipe(0, 0), -1);
      for (int p = 0; p < 8; p++) {
        due(x.pipe(0, 1, 0, 0, 1), p);
      }
      due(x.pipe(0, 1, 0, 0, 1), -6);
      due(x.count(1), 8);
    });
    says("a FIGURE (0 .. 9)", () -> {
      SiphonsBench x = bench("v1,0,1;v1,0,1;p0>1,0,0,1;");
      due(x.kind(0, 0, -1), -4);
      due(x.kind(0, 0, 10), -6);
      due(x.kind(0, 0, 9), 0);
      due(x.ofPipe(0, 1), 9);
      due(x.kind(0, 0, 0), 9);
      due(x.ofPipe(0, 1), 0);
    });
    says("from a VESSEL, the FIRST, to another one, the SECOND", () -> {
      SiphonsBench x = bench("v1,0,1;v1,0,1;");
      due(x.pipe(0, 0, 0, 0, 1), -1);
      due(x.pipe(1, 1, 0, 0, 1), -1);
      due(x.pipe(0, 1, 0, 0, 1), 0);
      due(x.pipe(1, 0, 0, 0, 1), 1);
    });
    says("(a height 0 .. 50", () -> {
      SiphonsBench x = bench("v1,20,30;v1,0,30;");
      due(x.pipe(0, 1, 50, 0, 1), 0);
      due(x.pipe(1, 0, 0, 50, 1), 1);
      due(x.ofPipe(0, 4), 50);
      due(x.ofPipe(0, 5), 0);
      due(x.pipe(0, 1, 51, 0, 1), -3);
      due(x.pipe(0, 1, 50, -1, 1), -3);
    });
    says("not below its BASE", () -> {
      SiphonsBench x = bench("v1,5,9;v1,7,9;");
      due(x.pipe(0, 1, 4, 7, 1), -3);
      due(x.pipe(0, 1, 5, 6, 1), -3);
      due(x.pipe(0, 1, 5, 7, 1), 0);
    });
    says("not above BASE and RIM together", () -> {
      SiphonsBench x = bench("v1,5,9;v1,7,3;");
      due(x.pipe(0, 1, 15, 10, 1), -3);
      due(x.pipe(0, 1, 14, 11, 1), -3);
      due(x.pipe(0, 1, 14, 10, 1), 0);
    });
    says("RATE (1 .. 9)", () -> {
      SiphonsBench x = bench("v1,0,1;v1,0,1;");
      due(x.pipe(0, 1, 0, 0, 0), -4);
      due(x.pipe(0, 1, 0, 0, 10), -6);
      due(x.pipe(0, 1, 0, 0, 1), 0);
      due(x.pipe(0, 1, 0, 0, 9), 1);
      due(x.ofPipe(0, 6), 1);
      due(x.ofPipe(1, 6), 9);
    });
    says("RUNS (1, 0; 0 at first", () -> {
      SiphonsBench x = bench("v1,10,9;v9,0,9;p0>1,10,0,1;k0=1,0;w0=9;");
      due(x.ofPipe(0, 7), 0);
      x.passes(1);
      due(x.ofPipe(0, 7), 1);
    });
    says("of SIPHONS and CUPS alone)", () -> {
      for (int kind = 0; kind <= 5; kind++) {
        SiphonsBench x = bench("v9,10,9;v9,0,9;p0>1,10,0,1;k0=" + kind + ",0;w0=81;s1;");
        boolean starts = kind == 1 || kind == 3;
        due(x.ofPipe(0, 7), starts ? 1 : 0);
        due(x.then(1, 1, 0), starts ? 1 : 0);
        due(x.count(5), starts ? 1 : 0);
      }
    });
  }

  /** Into a RACK made for one KIND just those of the told KINDS fit. */
  private static void fit(int made, String kinds) {
    for (int kind = 0; kind <= 5; kind++) {
      SiphonsBench x = bench("v1,0,1;v1,0,1;p0>1,0,0,1;k0=" + kind + ",0;");
      x.rack(0, made, 1);
      due(x.racks(0, 0, 0), kinds.indexOf('0' + kind) >= 0 ? 1 : -16);
    }
  }

  private static void kinds() {
    says("KINDS: 0 PIPE", () -> fit(0, "012345"));
    says("1 SIPHON under PIPE", () -> fit(1, "13"));
    says("2 VALVE under PIPE", () -> fit(2, "245"));
    says("3 CUP under SIPHON", () -> fit(3, "3"));
    says("4 WEIR under VALVE", () -> fit(4, "4"));
    says("5 DRIP under VALVE", () -> fit(5, "5"));
  }

  private static void heads() {
    says("LEVEL of its VESSEL, or its MOUTH, if that is above it", () -> {
      due(goes("v1,0,9;v1,0,9;p0>1,0,5,9;w0=9;"), 2);
      due(goes("v1,0,9;v1,0,9;p0>1,0,5,9;w0=9;w1=5;"), 2);
      due(goes("v1,0,9;v1,0,9;p0>1,0,5,9;w0=9;w1=7;"), 1);
      due(goes("v1,0,9;v1,0,9;p0>1,5,0,9;w0=3;w1=9;"), -2);
      due(goes("v1,0,9;v1,0,9;p0>1,5,0,9;w0=3;w1=5;"), 0);
      due(goes("v1,0,9;v1,0,9;p0>1,5,0,9;w0=9;w1=5;"), 2);
    });
    says("from the end with the greater HEAD to the other one", () -> {
      due(goes("v1,0,9;v1,0,9;p0>1,0,0,2;w0=9;"), 2);
      due(goes("v1,0,9;v1,0,9;p0>1,0,0,2;w1=9;"), -2);
      due(goes("v1,3,9;v1,0,9;p0>1,3,0,1;w0=4;w1=5;"), 1);
      due(goes("v1,0,9;v1,3,9;p0>1,0,3,1;w0=5;w1=4;"), -1);
    });
    says("(alike ones: not at all)", () -> {
      due(goes("v2,0,9;v3,0,9;p0>1,0,0,9;w0=6;w1=9;"), 0);
      due(goes("v2,3,9;v3,0,9;p0>1,3,0,9;k0=4,0;w0=6;w1=18;"), 0);
      due(goes("v2,0,9;v3,0,9;p0>1,4,4,9;w0=6;w1=9;"), 0);
    });
    says("a VALVE (WEIRS and DRIPS, too) from FIRST to SECOND alone, else not at all", () -> {
      for (int kind : new int[] {2, 4, 5}) {
        String text = "v1,0,9;v1,0,9;p0>1,0,0,2;k0=" + kind + ",0;";
        due(goes(text + "w1=9;"), 0);
        due(goes(text + "w0=9;"), kind == 4 ? 4 : 2);
        behind(text + "w1=9;", 1, 0, 9);
        behind(text + "w0=9;", 1, kind == 4 ? 5 : 7, kind == 4 ? 4 : 2);
      }
    });
    says("how much: RATE", () -> {
      due(goes("v1,0,30;v9,0,9;p0>1,0,0,1;w0=30;"), 1);
      due(goes("v1,0,30;v9,0,9;p0>1,0,0,9;w0=30;"), 9);
      due(goes("v9,0,9;v1,0,30;p0>1,0,0,8;w1=30;"), -8);
    });
    says("of WEIRS as much as there is", () -> {
      due(goes("v1,20,30;v9,0,30;p0>1,20,0,1;k0=4,0;w0=30;"), 30);
      behind("v1,20,30;v9,0,30;p0>1,20,0,1;k0=4,9;w0=30;", 1, 0, 30);
      SiphonsBench most = bench("v9,20,30;v9,0,30;p0>1,20,0,1;k0=4,0;");
      most.water(0, 270);
      due(most.goes(0), 225);
    });
    says("of DRIPS RATE, if STEP (as it is) modulo 3 is FIGURE modulo 3, else 0", () -> {
      for (int figure = 0; figure <= 9; figure++) {
        SiphonsBench x = bench("v1,20,30;v9,0,30;p0>1,20,0,2;k0=5," + figure + ";w0=30;");
        int water = 30;
        for (int step = 0; step < 6; step++) {
          int drips = step % 3 == figure % 3 ? 2 : 0;
          due(x.goes(0), drips);
          x.passes(1);
          water -= drips;
          due(x.of(0, 3), water);
        }
      }
    });
    says("at most what stands above the MOUTH from which it goes", () -> {
      due(goes("v1,0,9;v1,0,9;p0>1,7,0,9;w0=9;"), 2);
      due(goes("v1,0,9;v1,0,9;p0>1,7,0,9;w0=7;"), 0);
      due(goes("v1,0,9;v1,0,9;p0>1,0,7,9;w1=9;"), -2);
      due(goes("v1,0,9;v1,0,9;p0>1,0,7,9;w1=6;"), 0);
      due(goes("v1,0,9;v1,0,9;p0>1,7,0,9;k0=4,0;w0=6;"), 0);
    });
    says("(AREA times what LEVEL is above it, as a whole number, cut)", () -> {
      due(goes("v2,0,9;v9,0,9;p0>1,7,0,9;w0=15;"), 1);
      due(goes("v9,0,9;v2,0,9;p0>1,0,7,9;w1=15;"), -1);
      due(goes("v4,5,9;v9,0,9;p0>1,8,0,9;w0=17;"), 5);
    });
    says("at most what makes both HEADS alike", () -> {
      due(goes("v1,0,9;v1,0,9;p0>1,0,0,9;w0=8;"), 4);
      due(goes("v1,0,9;v1,0,9;p0>1,0,0,9;k0=4,0;w0=8;"), 4);
      due(goes("v1,0,9;v1,0,9;p0>1,0,0,9;w0=2;w1=8;"), -3);
    });
    says("what the HEADS differ by, times both AREAS, by both AREAS together, cut", () -> {
      due(goes("v1,0,9;v1,0,9;p0>1,0,0,9;w0=9;"), 4);
      due(goes("v1,0,9;v1,0,9;p0>1,0,0,9;w1=9;"), -4);
      due(goes("v1,0,9;v1,0,9;p0>1,0,0,9;w0=9;w1=8;"), 0);
      due(goes("v1,0,9;v1,0,9;p0>1,0,0,9;w0=8;w1=9;"), 0);
      due(goes("v2,0,9;v3,0,9;p0>1,0,0,9;w0=7;"), 4);
      due(goes("v2,0,9;v3,0,9;p0>1,0,0,9;w1=7;"), -2);
      due(goes("v3,5,9;v2,4,9;p0>1,5,4,9;w0=2;w1=3;"), 0);
      due(goes("v3,5,9;v2,4,9;p0>1,5,4,9;w0=7;w1=3;"), 2);
    });
  }

  private static void siphons() {
    says("if it doesn't RUN and LEVEL of FIRST is CREST or more, it RUNS", () -> {
      SiphonsBench x = bench("v9,10,9;v9,0,9;p0>1,12,0,2;k0=1,3;w0=53;");
      due(x.goes(0), 0);
      due(x.then(1, 1, 0), 0);
      due(x.then(1, 0, 0), 53);
      x.water(0, 54);
      due(x.goes(0), 2);
      due(x.then(1, 1, 0), 1);
      due(x.then(1, 0, 0), 52);
      x.water(0, 55);
      due(x.then(1, 1, 0), 1);
    });
    says("CREST: its first MOUTH and FIGURE and 1 together", () -> {
      SiphonsBench x = bench("v1,10,30;v9,0,9;p0>1,12,0,2;k0=1,0;w0=2;");
      due(x.ofPipe(0, 8), 13);
      due(x.goes(0), 0);
      x.water(0, 3);
      due(x.goes(0), 1);
      x.kind(0, 1, 9);
      due(x.ofPipe(0, 8), 22);
      x.water(0, 11);
      due(x.goes(0), 0);
      x.water(0, 12);
      due(x.goes(0), 2);
    });
    says("of CUPS FIGURE less than BASE and RIM of FIRST together", () -> {
      SiphonsBench x = bench("v1,10,9;v9,0,9;p0>1,10,0,2;k0=3,0;w0=8;");
      due(x.ofPipe(0, 8), 19);
      due(x.goes(0), 0);
      x.water(0, 9);
      due(x.goes(0), 4);
      x.kind(0, 3, 8);
      due(x.ofPipe(0, 8), 11);
      x.water(0, 0);
      due(x.goes(0), 0);
      x.water(0, 1);
      due(x.goes(0), 1);
      x.kind(0, 3, 9);
      due(x.ofPipe(0, 8), 10);
    });
    says("but not below the MOUTH", () -> {
      SiphonsBench x = bench("v1,10,9;v9,0,9;p0>1,13,0,2;k0=3,5;");
      due(x.ofPipe(0, 8), 14);
      x.kind(0, 3, 6);
      due(x.ofPipe(0, 8), 13);
      x.kind(0, 3, 7);
      due(x.ofPipe(0, 8), 13);
      x.kind(0, 3, 9);
      due(x.ofPipe(0, 8), 13);
    });
    says("If it RUNS, it GOES as a VALVE", () -> {
      for (int kind : new int[] {1, 3}) {
        SiphonsBench x = bench("v1,10,9;v1,0,30;p0>1,10,0,1;k0=" + kind + ",0;w0=9;s1;");
        due(x.ofPipe(0, 7), 1);
        due(x.goes(0), kind == 1 ? 1 : 2);
        x.water(1, 30);
        due(x.goes(0), 0);
        due(x.then(1, 0, 1), 30);
      }
    });
    says("(of CUPS RATE is twice RATE)", () -> {
      due(goes("v1,10,30;v9,0,9;p0>1,10,0,1;k0=3,0;w0=30;"), 2);
      due(goes("v1,10,30;v9,0,9;p0>1,10,0,9;k0=3,0;w0=30;"), 18);
      behind("v1,10,30;v9,0,9;p0>1,10,0,9;k0=3,0;w0=30;", 1, 12, 18);
    });
    says("if what stands above its first MOUTH is 0 (told as above)", () -> {
      SiphonsBench x = behind("v1,10,9;v9,0,9;p0>1,12,0,2;k0=1,3;w0=6;", 1, 4, 2);
      due(x.ofPipe(0, 7), 1);
      x.passes(1);
      due(x.of(0, 3), 2);
      due(x.ofPipe(0, 7), 0);
      SiphonsBench one = behind("v1,10,9;v9,0,9;p0>1,12,0,2;k0=1,4;w0=7;", 2, 3, 4);
      due(one.ofPipe(0, 7), 1);
      SiphonsBench least = bench("v9,10,9;v9,0,9;p0>1,12,0,9;k0=1,0;w0=28;s1;");
      due(least.ofPipe(0, 7), 1);
      due(least.goes(0), 1);
      due(least.then(1, 1, 0), 0);
    });
    says("or it went not at all, it RUNS no more (it BREAKS)", () -> {
      SiphonsBench x = behind("v1,0,9;v1,0,9;p0>1,0,0,9;k0=1,0;w0=9;w1=5;", 1, 7, 7);
      due(x.ofPipe(0, 7), 1);
      x.passes(1);
      due(x.of(0, 3), 7);
      due(x.ofPipe(0, 7), 0);
    });
    says("first, if it doesn't RUN", () -> {
      // It starts, goes and BREAKS in one and the same STEP.
      SiphonsBench x = behind("v1,10,9;v9,0,9;p0>1,10,0,9;k0=1,0;w0=1;", 1, 0, 1);
      due(x.ofPipe(0, 7), 0);
    });
  }

  /** THE SUMP's greatest number is out of reach of 512 calls: only from inside can a test come near it. */
  private static SiphonsBench sump(int v, String text) {
    SiphonsBench x = bench(text);
    try {
      Field now = SiphonsBench.class.getDeclaredField("now");
      now.setAccessible(true);
      Field sump = now.getType().getDeclaredField("sump");
      sump.setAccessible(true);
      sump.setInt(now.get(x), v);
    } catch (ReflectiveOperationException e) {
      throw new IllegalStateException("no THE SUMP inside: " + e);
    }
    due(x.count(3), v);
    return x;
  }

  private static void steps() {
    says("VESSELS by numbers: WATER is TAP more; then PIPES by numbers", () -> {
      behind("v1,0,9;v1,0,9;t0=3;t1=5;", 1, 3, 5);
      behind("v1,10,9;v9,0,9;p0>1,10,0,9;t0=4;", 1, 0, 4);
    });
    says("PIPES by numbers, each as it GOES then", () -> {
      behind("v1,9,9;v9,0,9;v9,0,9;p0>1,9,0,9;p1>2,0,0,9;w0=9;", 1, 0, 5, 4);
      behind("v1,9,9;v9,0,9;v9,0,9;p1>2,0,0,9;p0>1,9,0,9;w0=9;", 1, 0, 9, 0);
    });
    says("what is above AREA times RIM runs OVER into THE SUMP", () -> {
      due(behind("v2,0,3;w0=6;", 1, 6).count(3), 0);
      due(behind("v2,0,3;w0=5;t0=1;", 1, 6).count(3), 0);
      due(behind("v2,0,3;w0=6;t0=1;", 1, 6).count(3), 1);
      due(behind("v2,0,3;v1,0,1;w0=5;t0=4;t1=3;", 1, 6, 1).count(3), 5);
    });
    says("THE SUMP (0 at first", () -> due(bench("v1,0,1;w0=1;").count(3), 0));
    says("at most 2000000000)", () -> {
      String text = "v1,0,1;w0=1;t0=9;";
      SiphonsBench x = sump(1999999990, text);
      x.passes(1);
      due(x.count(3), 1999999999);
      x.passes(1);
      due(x.count(3), 2000000000);
      x.passes(99);
      due(x.count(3), 2000000000);
      due(x.all(), 2000000001);
      due(sump(1999999991, text).then(1, 2, 0), 2000000000);
      due(sump(1999999992, text).then(1, 2, 0), 2000000000);
      due(sump(1999999992, text).then(0, 2, 0), 1999999992);
    });
    says("STEP (0 at first; 0 .. 9999) is 1 more", () -> {
      SiphonsBench x = new SiphonsBench();
      due(x.count(2), 0);
      due(x.passes(1), 1);
      due(x.passes(99), 100);
      due(x.count(2), 100);
    });
    says("(9999 stays)", () -> {
      SiphonsBench x = lateAs("v1,20,30;v9,0,30;p0>1,20,0,2;w0=30;", 98);
      due(x.count(2), 9998);
      due(x.passes(1), 9999);
      due(x.passes(1), 9999);
      due(x.passes(99), 9999);
      due(x.image(), 9999);
    });
    says("STEP (as it is) modulo 3", () -> {
      // 9999 modulo 3 is 0, and stays so.
      SiphonsBench x = lateAs("v1,20,30;v9,0,30;p0>1,20,0,2;k0=5,1;", 99);
      x.water(0, 30);
      due(x.then(5, 0, 0), 30);
      x.kind(0, 5, 3);
      due(x.then(5, 0, 0), 20);
    });
    says("Between these WATER may be above AREA times RIM", () -> {
      due(behind("v1,0,5;v9,0,9;p0>1,0,0,9;w0=5;t0=9;", 1, 5, 9).count(3), 0);
      due(behind("v1,20,9;v1,10,1;v9,0,9;p0>1,20,10,9;p1>2,10,0,9;w0=9;", 1, 0, 0, 9).count(3), 0);
      SiphonsBench x = behind("v1,10,3;v9,0,9;p0>1,13,0,1;k0=1,1;w0=3;t0=2;", 1, 3, 1);
      due(x.ofPipe(0, 7), 1);
      due(x.count(3), 1);
    });
  }

  /** The STATEMENT comes; without its end, or with a wrong sign anywhere, there is a FAULT just there. */
  private static void form(String ahead, String statement) {
    SiphonsBench whole = made(ahead);
    due(tell(whole, statement), 1);
    for (int i = 0; i < statement.length(); i++) {
      due(tell(made(ahead), statement.substring(0, i)), -1000 - i);
      due(tell(made(ahead), statement.substring(0, i) + "!"), -1000 - i);
      String wrong = statement.substring(0, i) + "!" + statement.substring(i + 1);
      SiphonsBench x = made(ahead);
      due(tell(x, wrong), -1000 - i);
      alike(x, made(ahead));
    }
  }

  private static SiphonsBench made(String text) {
    return text.isEmpty() ? new SiphonsBench() : told(text);
  }

  private static void letters() {
    says("Told in letters (120 at most)", () -> {
      SiphonsBench x = new SiphonsBench();
      StringBuilder most = new StringBuilder();
      for (int i = 0; i < 40; i++) {
        most.append("s1;");
      }
      due(tell(x, most.toString()), 40);
      due(x.count(2), 40);
      SiphonsBench more = new SiphonsBench();
      due(tell(more, most + "s"), 40);
      due(more.count(16), 1);
    });
    says("STATEMENTS, each with \";\" behind", () -> {
      due(tells("s1"), -1002);
      due(tells("s1;s1"), -1005);
      due(tells("s1s1;"), -1002);
      due(tells("s1;;"), -1003);
      due(tells("s1;s1;"), 2);
    });
    says("numbers of one or two digits", () -> {
      due(tells("v9,00,09;"), 1);
      due(tells("v09,20,30;"), 1);
      due(tells("s;"), -1001);
      due(tells("s001;"), -1003);
      due(tells("v1,0,100;"), -1007);
      due(tells("v,0,1;"), -1001);
      due(tells("v1,,1;"), -1003);
      due(tells("s-1;"), -1001);
      due(tells("s+1;"), -1001);
      due(tells("s:;"), -1001);
      due(tells("s/;"), -1001);
      due(tells("s1:;"), -1002);
      due(tells("s1/;"), -1002);
    });
    says("\"v\" AREA \",\" BASE \",\" RIM: a VESSEL more", () -> {
      form("", "v4,16,30;");
      SiphonsBench x = told("v4,16,30;");
      due(x.of(0, 0), 4);
      due(x.of(0, 1), 16);
      due(x.of(0, 2), 30);
    });
    says("\"p\" FIRST \">\" SECOND \",\" MOUTH \",\" MOUTH \",\" RATE: a PIPE more", () -> {
      form("v1,0,30;v1,0,30;", "p1>00,5,28,7;");
      SiphonsBench x = told("v1,0,30;v1,0,30;p1>00,5,28,7;");
      int[] was = {0, 0, 1, 0, 5, 28, 7, 0, -9};
      for (int what = 0; what < 9; what++) {
        due(x.ofPipe(0, what), was[what]);
      }
    });
    says("(KIND 0, FIGURE 0)", () -> {
      SiphonsBench x = told("v1,0,30;v1,0,30;p1>0,5,28,7;k0=5,9;p1>0,5,28,7;");
      due(x.ofPipe(1, 0), 0);
      due(x.ofPipe(1, 1), 0);
    });
    says("\"k\" a PIPE \"=\" KIND \",\" FIGURE", () -> {
      form("v1,0,30;v1,0,30;p1>0,5,28,7;", "k0=3,09;");
      SiphonsBench x = told("v1,0,30;v1,0,30;p1>0,5,28,7;k00=3,9;");
      due(x.ofPipe(0, 0), 3);
      due(x.ofPipe(0, 1), 9);
    });
    says("\"w\" a VESSEL \"=\" WATER", () -> {
      form("v1,0,30;", "w0=30;");
      due(told("v9,0,30;w0=99;").of(0, 3), 99);
    });
    says("\"t\" a VESSEL \"=\" TAP", () -> {
      form("v1,0,30;", "t0=09;");
      due(told("v9,0,30;t0=9;").of(0, 4), 9);
    });
    says("\"s\" STEPS (1 .. 99) pass", () -> {
      form("", "s99;");
      due(told("s1;").count(2), 1);
      due(told("s99;").count(2), 99);
      due(tells("s0;"), -2000);
      due(tells("s00;"), -2000);
      due(tells("s1;s0;"), -2003);
    });
    says("At least one.", () -> {
      SiphonsBench x = new SiphonsBench();
      due(x.tells(), -1000);
      due(tell(x, "s1;"), 1);
      due(x.tells(), -1000);
      due(x.count(2), 1);
    });
  }

  private static void faults() {
    says("kind 1 the place of the first letter with which no STATEMENTS can go on", () -> {
      for (String wrong : new String[] {"x", "V", ";", " ", ",", "0", "\u0000", "\u00ff", "\n"}) {
        due(tells(wrong), -1000);
        due(tells(wrong + "s1;"), -1000);
        due(tells("s1;" + wrong), -1003);
        due(tells("s1;" + wrong + "?"), -1003);
      }
      due(tells("v1>0,1;"), -1002);
      due(tells("p0,1,0,0,1;"), -1002);
      due(tells("p0>1>0,0,1;"), -1004);
      due(tells("p0>1,0,0;"), -1008);
      due(tells("p0>1,0,0,1,"), -1010);
      due(tells("k0,0,0;"), -1002);
      due(tells("k0=0=0;"), -1004);
      due(tells("k0=0;"), -1004);
      due(tells("w0,0;"), -1002);
      due(tells("w0=0,"), -1004);
      due(tells("t0>0;"), -1002);
      due(tells("s1,"), -1002);
      due(tells("v1,0;"), -1004);
      due(tells("v1,0,1,"), -1006);
    });
    says("(the end, if something lacks): -1000 less the place", () -> {
      due(tells(""), -1000);
      due(tells("v"), -1001);
      due(tells("v1,2,3;s9"), -1009);
      StringBuilder most = new StringBuilder();
      for (int i = 0; i < 39; i++) {
        most.append("s1;");
      }
      due(tells(most + "s1"), -1119);
      due(tells(most + "s11"), -1120);
    });
    says("else kind 2 the place of the first letter of the first STATEMENT", () -> {
      due(tells("s0;x"), -1003);
      due(tells("s0;s"), -1004);
      due(tells("w9=9;v0,0,0"), -1011);
      due(tells("s0;w0=0;"), -2000);
      due(tells("s1;w0=0;s0;"), -2003);
      due(tells("s01;v0,0,1;s0;"), -2004);
    });
    says("that, behind all ahead of it in the text, is not as it must be", () -> {
      due(tells("v1,0,1;w0=1;"), 2);
      due(tells("w0=1;v1,0,1;"), -2000);
      due(tells("v1,0,1;w0=2;"), -2007);
      due(tells("v1,0,1;v1,0,1;v1,0,1;v1,0,1;v1,0,1;"), 5);
      due(tells("v1,0,1;v1,0,1;v1,0,1;v1,0,1;v1,0,1;v1,0,1;"), -2035);
      String pipes = "v1,0,1;v1,0,1;";
      for (int p = 0; p < 8; p++) {
        pipes += "p0>1,0,0,1;";
      }
      due(tells(pipes), 10);
      due(tells(pipes + "p0>1,0,0,1;"), -2102);
      due(tells("v1,0,1;v1,0,1;k0=1,0;p0>1,0,0,1;"), -2014);
      due(tells("v1,0,1;v1,0,1;p0>1,0,0,1;k0=1,0;"), 4);
    });
    says("(as vessel(), pipe() .. refuse it): -2000 less the place", () -> {
      String[] of = {"v0,0,1;", "v10,0,1;", "v1,21,1;", "v1,0,0;", "v1,0,31;", "p0>2,0,0,1;",
        "p2>0,0,0,1;", "p1>1,0,0,1;", "p0>1,2,0,1;", "p0>1,0,4,1;", "p0>1,0,16,1;", "p0>1,0,5,0;",
        "p0>1,0,5,10;", "k1=0,0;", "k0=6,0;", "k0=0,10;", "w2=0;", "w0=2;", "w1=11;", "t2=0;",
        "t0=10;", "s0;"};
      for (String wrong : of) {
        due(tells("v1,0,1;v1,5,10;p0>1,0,5,1;" + wrong), -2026);
        due(tells("v1,0,1;v1,5,10;p0>1,0,5,1;s1;" + wrong + "s0;"), -2029);
      }
    });
    says("Without FAULT all of it comes", () -> {
      SiphonsBench x = told("v4,6,10;v9,0,30;p0>1,16,0,9;k0=4,3;w0=39;t0=8;s2;");
      due(x.count(0), 2);
      due(x.count(1), 1);
      due(x.count(2), 2);
      due(x.of(0, 3), 40);
      due(x.of(1, 3), 15);
    });
    says("with one nothing", () -> {
      String ahead = "v1,10,9;v9,0,9;p0>1,10,0,1;k0=1,0;t0=9;s1;";
      String[] wrong = {"v1,0,1;s0;", "p1>0,0,10,1;s0;", "k0=0,0;s0;", "w0=0;s0;", "t0=0;s0;",
        "s99;s0;", "s99;x", "w0=0;w0", "t0=1;w0=10;"};
      for (String text : wrong) {
        SiphonsBench x = bench(ahead);
        due(tell(x, text) < 0 ? 1 : 0, 1);
        alike(x, bench(ahead));
      }
    });
  }

  private static void calls() {
    section("What it is");
    says("An object is used for at most 512 calls after it has been made", () -> {
      SiphonsBench x = new SiphonsBench();
      for (int call = 1; call < 512; call++) {
        due(x.letter(-1), -4);
      }
      due(x.count(14), 511);
      // And the last one may be the dearest.
      SiphonsBench full = full();
      for (int call = 14; call < 512; call++) {
        due(full.passes(1), call - 13);
      }
      due(full.leak(2, 30, 0), 0);
    });
  }

  public static void main(String[] args) {
    calls();
    section("Terms I");
    vessels();
    pipes();
    kinds();
    heads();
    siphons();
    steps();
    letters();
    faults();
    finish("EdgeTermsTests");
  }
}
