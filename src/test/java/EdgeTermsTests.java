import java.lang.reflect.Field;

/** The edges that the document's Terms name, in its order: each sentence by a test of its own. */
public final class EdgeTermsTests {
  private static void says(String words, Runnable test) {
    Edge.says(words, test);
  }

  private static void due(long got, long want) {
    Edge.due(got, want);
  }

  private static SiphonsBench told(String text) {
    return Edge.told(text);
  }

  private static long goes(String text) {
    return told(text).goes(0);
  }

  /** What a text answers, told to an object of its own. */
  private static int tells(String text) {
    return Edge.tell(new SiphonsBench(), text);
  }

  /** After so many STEPS, WATER of the VESSELS. */
  private static SiphonsBench behind(String text, int steps, int... waters) {
    SiphonsBench x = told(text);
    if (steps > 0) {
      x.passes(steps);
    }
    for (int v = 0; v < waters.length; v++) {
      due(x.of(v, 3), waters[v]);
    }
    return x;
  }

  private static void vessels() {
    says("VESSELS 0 .. as they come", () -> {
      SiphonsBench x = new SiphonsBench();
      due(x.of(0, 0), -1);
      due(x.vessel(1, 0, 1), 0);
      due(x.vessel(2, 0, 1), 1);
      due(x.of(0, 0), 1);
      due(x.of(1, 0), 2);
      due(x.of(2, 0), -1);
    });
    says("(5 at most)", () -> {
      SiphonsBench x = new SiphonsBench();
      for (int v = 0; v < 5; v++) {
        due(x.vessel(1, 0, 1), v);
      }
      due(x.vessel(1, 0, 1), -6);
      due(x.count(0), 5);
    });
    says("AREA (1 .. 9)", () -> {
      due(new SiphonsBench().vessel(0, 0, 1), -4);
      due(told("v1,0,1;").of(0, 0), 1);
      due(told("v9,0,1;").of(0, 0), 9);
      due(new SiphonsBench().vessel(10, 0, 1), -6);
    });
    says("BASE (0 .. 20)", () -> {
      due(new SiphonsBench().vessel(1, -1, 1), -4);
      due(told("v1,0,1;").of(0, 1), 0);
      due(told("v1,20,1;").of(0, 1), 20);
      due(new SiphonsBench().vessel(1, 21, 1), -6);
    });
    says("RIM (1 .. 30: how high above BASE)", () -> {
      due(new SiphonsBench().vessel(1, 0, 0), -4);
      due(told("v1,0,1;").of(0, 2), 1);
      SiphonsBench x = told("v1,20,30;v1,0,1;");
      due(x.of(0, 2), 30);
      due(x.water(0, 30), 0);
      due(x.pipe(0, 1, 50, 0, 1), 0);
      due(new SiphonsBench().vessel(1, 0, 31), -6);
    });
    says("WATER (0 .. AREA times RIM; 0 at first)", () -> {
      SiphonsBench x = told("v3,2,7;");
      due(x.of(0, 3), 0);
      due(x.water(0, -1), -4);
      due(x.water(0, 21), 0);
      due(x.water(0, 22), -6);
      due(x.water(0, 0), 21);
    });
    says("TAP (0 .. 9: how much comes in a STEP; 0 at first)", () -> {
      SiphonsBench x = told("v3,2,7;");
      due(x.of(0, 4), 0);
      due(x.tap(0, -1), -4);
      due(x.tap(0, 10), -6);
      x.passes(1);
      due(x.of(0, 3), 0);
      due(x.tap(0, 9), 0);
      x.passes(2);
      due(x.of(0, 3), 18);
    });
    says("LEVEL, a fraction: BASE and WATER by AREA together", () -> {
      due(told("v6,3,5;w0=9;").level(0, 0), 9);
      due(told("v6,3,5;w0=9;").level(0, 1), 2);
    });
  }

  private static void pipes() {
    says("PIPES 0 .. as they come (8 at most)", () -> {
      SiphonsBench x = told("v1,0,1;v1,0,1;");
      due(x.ofPipe(0, 0), -1);
      for (int p = 0; p < 8; p++) {
        due(x.pipe(0, 1, 0, 0, 1), p);
      }
      due(x.pipe(0, 1, 0, 0, 1), -6);
      due(x.count(1), 8);
    });
    says("a FIGURE (0 .. 9)", () -> {
      SiphonsBench x = told("v1,0,1;v1,0,1;p0>1,0,0,1;");
      due(x.kind(0, 0, -1), -4);
      due(x.kind(0, 0, 10), -6);
      due(x.kind(0, 0, 9), 0);
      due(x.ofPipe(0, 1), 9);
      due(x.kind(0, 0, 0), 9);
      due(x.ofPipe(0, 1), 0);
    });
    says("from a VESSEL, the FIRST, to another one, the SECOND", () -> {
      SiphonsBench x = told("v1,0,1;v1,0,1;");
      due(x.pipe(0, 0, 0, 0, 1), -1);
      due(x.pipe(1, 1, 0, 0, 1), -1);
      due(x.pipe(0, 1, 0, 0, 1), 0);
      due(x.pipe(1, 0, 0, 0, 1), 1);
    });
    says("(a height 0 .. 50", () -> {
      SiphonsBench x = told("v1,20,30;v1,0,30;");
      due(x.pipe(0, 1, 50, 0, 1), 0);
      due(x.pipe(1, 0, 0, 50, 1), 1);
      due(x.ofPipe(0, 4), 50);
      due(x.ofPipe(0, 5), 0);
      due(x.pipe(0, 1, 51, 0, 1), -3);
      due(x.pipe(0, 1, 50, -1, 1), -3);
    });
    says("not below its BASE", () -> {
      SiphonsBench x = told("v1,5,9;v1,7,9;");
      due(x.pipe(0, 1, 4, 7, 1), -3);
      due(x.pipe(0, 1, 5, 6, 1), -3);
      due(x.pipe(0, 1, 5, 7, 1), 0);
    });
    says("not above BASE and RIM together", () -> {
      SiphonsBench x = told("v1,5,9;v1,7,3;");
      due(x.pipe(0, 1, 15, 10, 1), -3);
      due(x.pipe(0, 1, 14, 11, 1), -3);
      due(x.pipe(0, 1, 14, 10, 1), 0);
    });
    says("RATE (1 .. 9)", () -> {
      SiphonsBench x = told("v1,0,1;v1,0,1;");
      due(x.pipe(0, 1, 0, 0, 0), -4);
      due(x.pipe(0, 1, 0, 0, 10), -6);
      due(x.pipe(0, 1, 0, 0, 1), 0);
      due(x.pipe(0, 1, 0, 0, 9), 1);
      due(x.ofPipe(0, 6), 1);
      due(x.ofPipe(1, 6), 9);
    });
    says("RUNS (1, 0; 0 at first", () -> {
      SiphonsBench x = told("v1,10,9;v9,0,9;p0>1,10,0,1;k0=1,0;w0=9;");
      due(x.ofPipe(0, 7), 0);
      x.passes(1);
      due(x.ofPipe(0, 7), 1);
    });
    says("of SIPHONS and CUPS alone)", () -> {
      for (int kind = 0; kind <= 5; kind++) {
        SiphonsBench x = told("v9,10,9;v9,0,9;p0>1,10,0,1;k0=" + kind + ",0;w0=81;s1;");
        boolean starts = kind == 1 || kind == 3;
        due(x.ofPipe(0, 7), starts ? 1 : 0);
        due(x.then(1, 1, 0), starts ? 1 : 0);
        due(x.count(5), starts ? 1 : 0);
      }
    });
  }

  /** Into a RACK made for one KIND just those of the told KINDS fit. */
  private static void fit(int made, String kinds) {
    for (int kind = 0; kind <= 5; kind++) {
      SiphonsBench x = told("v1,0,1;v1,0,1;p0>1,0,0,1;k0=" + kind + ",0;");
      x.rack(0, made, 1);
      due(x.racks(0, 0, 0), kinds.indexOf('0' + kind) >= 0 ? 1 : -16);
    }
  }

  private static void kinds() {
    says("KINDS: 0 PIPE", () -> fit(0, "012345"));
    says("1 SIPHON under PIPE", () -> fit(1, "13"));
    says("2 VALVE under PIPE", () -> fit(2, "245"));
    says("3 CUP under SIPHON", () -> fit(3, "3"));
    says("4 WEIR under VALVE", () -> fit(4, "4"));
    says("5 DRIP under VALVE", () -> fit(5, "5"));
  }

  private static void heads() {
    says("LEVEL of its VESSEL, or its MOUTH, if that is above it", () -> {
      due(goes("v1,0,9;v1,0,9;p0>1,0,5,9;w0=9;"), 2);
      due(goes("v1,0,9;v1,0,9;p0>1,0,5,9;w0=9;w1=5;"), 2);
      due(goes("v1,0,9;v1,0,9;p0>1,0,5,9;w0=9;w1=7;"), 1);
      due(goes("v1,0,9;v1,0,9;p0>1,5,0,9;w0=3;w1=9;"), -2);
      due(goes("v1,0,9;v1,0,9;p0>1,5,0,9;w0=3;w1=5;"), 0);
      due(goes("v1,0,9;v1,0,9;p0>1,5,0,9;w0=9;w1=5;"), 2);
    });
    says("from the end with the greater HEAD to the other one", () -> {
      due(goes("v1,0,9;v1,0,9;p0>1,0,0,2;w0=9;"), 2);
      due(goes("v1,0,9;v1,0,9;p0>1,0,0,2;w1=9;"), -2);
      due(goes("v1,3,9;v1,0,9;p0>1,3,0,1;w0=4;w1=5;"), 1);
      due(goes("v1,0,9;v1,3,9;p0>1,0,3,1;w0=5;w1=4;"), -1);
    });
    says("(alike ones: not at all)", () -> {
      due(goes("v2,0,9;v3,0,9;p0>1,0,0,9;w0=6;w1=9;"), 0);
      due(goes("v2,3,9;v3,0,9;p0>1,3,0,9;k0=4,0;w0=6;w1=18;"), 0);
      due(goes("v2,0,9;v3,0,9;p0>1,4,4,9;w0=6;w1=9;"), 0);
    });
    says("a VALVE (WEIRS and DRIPS, too) from FIRST to SECOND alone, else not at all", () -> {
      for (int kind : new int[] {2, 4, 5}) {
        String bench = "v1,0,9;v1,0,9;p0>1,0,0,2;k0=" + kind + ",0;";
        due(goes(bench + "w1=9;"), 0);
        due(goes(bench + "w0=9;"), kind == 4 ? 4 : 2);
        behind(bench + "w1=9;", 1, 0, 9);
        behind(bench + "w0=9;", 1, kind == 4 ? 5 : 7, kind == 4 ? 4 : 2);
      }
    });
    says("how much: RATE", () -> {
      due(goes("v1,0,30;v9,0,9;p0>1,0,0,1;w0=30;"), 1);
      due(goes("v1,0,30;v9,0,9;p0>1,0,0,9;w0=30;"), 9);
      due(goes("v9,0,9;v1,0,30;p0>1,0,0,8;w1=30;"), -8);
    });
    says("of WEIRS as much as there is", () -> {
      due(goes("v1,20,30;v9,0,30;p0>1,20,0,1;k0=4,0;w0=30;"), 30);
      behind("v1,20,30;v9,0,30;p0>1,20,0,1;k0=4,9;w0=30;", 1, 0, 30);
      SiphonsBench most = told("v9,20,30;v9,0,30;p0>1,20,0,1;k0=4,0;");
      most.water(0, 270);
      due(most.goes(0), 225);
    });
    says("of DRIPS RATE, if STEP (as it is) modulo 3 is FIGURE modulo 3, else 0", () -> {
      for (int figure = 0; figure <= 9; figure++) {
        SiphonsBench x = told("v1,20,30;v9,0,30;p0>1,20,0,2;k0=5," + figure + ";w0=30;");
        int water = 30;
        for (int step = 0; step < 6; step++) {
          int drips = step % 3 == figure % 3 ? 2 : 0;
          due(x.goes(0), drips);
          x.passes(1);
          water -= drips;
          due(x.of(0, 3), water);
        }
      }
    });
    says("at most what stands above the MOUTH from which it goes", () -> {
      due(goes("v1,0,9;v1,0,9;p0>1,7,0,9;w0=9;"), 2);
      due(goes("v1,0,9;v1,0,9;p0>1,7,0,9;w0=7;"), 0);
      due(goes("v1,0,9;v1,0,9;p0>1,0,7,9;w1=9;"), -2);
      due(goes("v1,0,9;v1,0,9;p0>1,0,7,9;w1=6;"), 0);
      due(goes("v1,0,9;v1,0,9;p0>1,7,0,9;k0=4,0;w0=6;"), 0);
    });
    says("(AREA times what LEVEL is above it, as a whole number, cut)", () -> {
      due(goes("v2,0,9;v9,0,9;p0>1,7,0,9;w0=15;"), 1);
      due(goes("v9,0,9;v2,0,9;p0>1,0,7,9;w1=15;"), -1);
      due(goes("v4,5,9;v9,0,9;p0>1,8,0,9;w0=17;"), 5);
    });
    says("at most what makes both HEADS alike", () -> {
      due(goes("v1,0,9;v1,0,9;p0>1,0,0,9;w0=8;"), 4);
      due(goes("v1,0,9;v1,0,9;p0>1,0,0,9;k0=4,0;w0=8;"), 4);
      due(goes("v1,0,9;v1,0,9;p0>1,0,0,9;w0=2;w1=8;"), -3);
    });
    says("what the HEADS differ by, times both AREAS, by both AREAS together, cut", () -> {
      due(goes("v1,0,9;v1,0,9;p0>1,0,0,9;w0=9;"), 4);
      due(goes("v1,0,9;v1,0,9;p0>1,0,0,9;w1=9;"), -4);
      due(goes("v1,0,9;v1,0,9;p0>1,0,0,9;w0=9;w1=8;"), 0);
      due(goes("v1,0,9;v1,0,9;p0>1,0,0,9;w0=8;w1=9;"), 0);
      due(goes("v2,0,9;v3,0,9;p0>1,0,0,9;w0=7;"), 4);
      due(goes("v2,0,9;v3,0,9;p0>1,0,0,9;w1=7;"), -2);
      due(goes("v3,5,9;v2,4,9;p0>1,5,4,9;w0=2;w1=3;"), 0);
      due(goes("v3,5,9;v2,4,9;p0>1,5,4,9;w0=7;w1=3;"), 2);
    });
  }

  private static void siphons() {
    says("if it doesn't RUN and LEVEL of FIRST is CREST or more, it RUNS", () -> {
      SiphonsBench x = told("v9,10,9;v9,0,9;p0>1,12,0,2;k0=1,3;w0=53;");
      due(x.goes(0), 0);
      due(x.then(1, 1, 0), 0);
      due(x.then(1, 0, 0), 53);
      x.water(0, 54);
      due(x.goes(0), 2);
      due(x.then(1, 1, 0), 1);
      due(x.then(1, 0, 0), 52);
      x.water(0, 55);
      due(x.then(1, 1, 0), 1);
    });
    says("CREST: its first MOUTH and FIGURE and 1 together", () -> {
      SiphonsBench x = told("v1,10,30;v9,0,9;p0>1,12,0,2;k0=1,0;w0=2;");
      due(x.ofPipe(0, 8), 13);
      due(x.goes(0), 0);
      x.water(0, 3);
      due(x.goes(0), 1);
      x.kind(0, 1, 9);
      due(x.ofPipe(0, 8), 22);
      x.water(0, 11);
      due(x.goes(0), 0);
      x.water(0, 12);
      due(x.goes(0), 2);
    });
    says("of CUPS FIGURE less than BASE and RIM of FIRST together", () -> {
      SiphonsBench x = told("v1,10,9;v9,0,9;p0>1,10,0,2;k0=3,0;w0=8;");
      due(x.ofPipe(0, 8), 19);
      due(x.goes(0), 0);
      x.water(0, 9);
      due(x.goes(0), 4);
      x.kind(0, 3, 8);
      due(x.ofPipe(0, 8), 11);
      x.water(0, 0);
      due(x.goes(0), 0);
      x.water(0, 1);
      due(x.goes(0), 1);
      x.kind(0, 3, 9);
      due(x.ofPipe(0, 8), 10);
    });
    says("but not below the MOUTH", () -> {
      SiphonsBench x = told("v1,10,9;v9,0,9;p0>1,13,0,2;k0=3,5;");
      due(x.ofPipe(0, 8), 14);
      x.kind(0, 3, 6);
      due(x.ofPipe(0, 8), 13);
      x.kind(0, 3, 7);
      due(x.ofPipe(0, 8), 13);
      x.kind(0, 3, 9);
      due(x.ofPipe(0, 8), 13);
    });
    says("If it RUNS, it GOES as a VALVE", () -> {
      for (int kind : new int[] {1, 3}) {
        SiphonsBench x = told("v1,10,9;v1,0,30;p0>1,10,0,1;k0=" + kind + ",0;w0=9;s1;");
        due(x.ofPipe(0, 7), 1);
        due(x.goes(0), kind == 1 ? 1 : 2);
        x.water(1, 30);
        due(x.goes(0), 0);
        due(x.then(1, 0, 1), 30);
      }
    });
    says("(of CUPS RATE is twice RATE)", () -> {
      due(goes("v1,10,30;v9,0,9;p0>1,10,0,1;k0=3,0;w0=30;"), 2);
      due(goes("v1,10,30;v9,0,9;p0>1,10,0,9;k0=3,0;w0=30;"), 18);
      behind("v1,10,30;v9,0,9;p0>1,10,0,9;k0=3,0;w0=30;", 1, 12, 18);
    });
    says("if what stands above its first MOUTH is 0 (told as above)", () -> {
      SiphonsBench x = behind("v1,10,9;v9,0,9;p0>1,12,0,2;k0=1,3;w0=6;", 1, 4, 2);
      due(x.ofPipe(0, 7), 1);
      x.passes(1);
      due(x.of(0, 3), 2);
      due(x.ofPipe(0, 7), 0);
      SiphonsBench one = behind("v1,10,9;v9,0,9;p0>1,12,0,2;k0=1,4;w0=7;", 2, 3, 4);
      due(one.ofPipe(0, 7), 1);
      SiphonsBench least = told("v9,10,9;v9,0,9;p0>1,12,0,9;k0=1,0;w0=28;s1;");
      due(least.ofPipe(0, 7), 1);
      due(least.goes(0), 1);
      due(least.then(1, 1, 0), 0);
    });
    says("or it went not at all, it RUNS no more (it BREAKS)", () -> {
      SiphonsBench x = behind("v1,0,9;v1,0,9;p0>1,0,0,9;k0=1,0;w0=9;w1=5;", 1, 7, 7);
      due(x.ofPipe(0, 7), 1);
      x.passes(1);
      due(x.of(0, 3), 7);
      due(x.ofPipe(0, 7), 0);
    });
    says("first, if it doesn't RUN", () -> {
      // It starts, goes and BREAKS in one and the same STEP.
      SiphonsBench x = behind("v1,10,9;v9,0,9;p0>1,10,0,9;k0=1,0;w0=1;", 1, 0, 1);
      due(x.ofPipe(0, 7), 0);
    });
  }

  /** THE SUMP's greatest number is out of reach of 512 calls: only from inside can a test come near it. */
  private static SiphonsBench sump(int v, String text) {
    SiphonsBench x = told(text);
    try {
      Field now = SiphonsBench.class.getDeclaredField("now");
      now.setAccessible(true);
      Field sump = now.getType().getDeclaredField("sump");
      sump.setAccessible(true);
      sump.setInt(now.get(x), v);
    } catch (ReflectiveOperationException e) {
      throw new IllegalStateException("no THE SUMP inside: " + e);
    }
    due(x.count(3), v);
    return x;
  }

  private static void steps() {
    says("VESSELS by numbers: WATER is TAP more; then PIPES by numbers", () -> {
      behind("v1,0,9;v1,0,9;t0=3;t1=5;", 1, 3, 5);
      behind("v1,10,9;v9,0,9;p0>1,10,0,9;t0=4;", 1, 0, 4);
    });
    says("PIPES by numbers, each as it GOES then", () -> {
      behind("v1,9,9;v9,0,9;v9,0,9;p0>1,9,0,9;p1>2,0,0,9;w0=9;", 1, 0, 5, 4);
      behind("v1,9,9;v9,0,9;v9,0,9;p1>2,0,0,9;p0>1,9,0,9;w0=9;", 1, 0, 9, 0);
    });
    says("what is above AREA times RIM runs OVER into THE SUMP", () -> {
      due(behind("v2,0,3;w0=6;", 1, 6).count(3), 0);
      due(behind("v2,0,3;w0=5;t0=1;", 1, 6).count(3), 0);
      due(behind("v2,0,3;w0=6;t0=1;", 1, 6).count(3), 1);
      due(behind("v2,0,3;v1,0,1;w0=5;t0=4;t1=3;", 1, 6, 1).count(3), 5);
    });
    says("THE SUMP (0 at first", () -> due(told("v1,0,1;w0=1;").count(3), 0));
    says("at most 2000000000)", () -> {
      String bench = "v1,0,1;w0=1;t0=9;";
      SiphonsBench x = sump(1999999990, bench);
      x.passes(1);
      due(x.count(3), 1999999999);
      x.passes(1);
      due(x.count(3), 2000000000);
      x.passes(99);
      due(x.count(3), 2000000000);
      due(x.all(), 2000000001);
      due(sump(1999999991, bench).then(1, 2, 0), 2000000000);
      due(sump(1999999992, bench).then(1, 2, 0), 2000000000);
      due(sump(1999999992, bench).then(0, 2, 0), 1999999992);
    });
    says("STEP (0 at first; 0 .. 9999) is 1 more", () -> {
      SiphonsBench x = new SiphonsBench();
      due(x.count(2), 0);
      due(x.passes(1), 1);
      due(x.passes(99), 100);
      due(x.count(2), 100);
    });
    says("(9999 stays)", () -> {
      SiphonsBench x = lateAs("v1,20,30;v9,0,30;p0>1,20,0,2;w0=30;", 98);
      due(x.count(2), 9998);
      due(x.passes(1), 9999);
      due(x.passes(1), 9999);
      due(x.passes(99), 9999);
      due(x.image(), 9999);
    });
    says("STEP (as it is) modulo 3", () -> {
      // 9999 modulo 3 is 0, and stays so.
      SiphonsBench x = lateAs("v1,20,30;v9,0,30;p0>1,20,0,2;k0=5,1;", 99);
      x.water(0, 30);
      due(x.then(5, 0, 0), 30);
      x.kind(0, 5, 3);
      due(x.then(5, 0, 0), 20);
    });
    says("Between these WATER may be above AREA times RIM", () -> {
      due(behind("v1,0,5;v9,0,9;p0>1,0,0,9;w0=5;t0=9;", 1, 5, 9).count(3), 0);
      due(behind("v1,20,9;v1,10,1;v9,0,9;p0>1,20,10,9;p1>2,10,0,9;w0=9;", 1, 0, 0, 9).count(3), 0);
      SiphonsBench x = behind("v1,10,3;v9,0,9;p0>1,13,0,1;k0=1,1;w0=3;t0=2;", 1, 3, 1);
      due(x.ofPipe(0, 7), 1);
      due(x.count(3), 1);
    });
  }

  /** The bench at a STEP from 9901 on: so many behind 9900. */
  private static SiphonsBench lateAs(String text, int steps) {
    SiphonsBench x = told(text);
    for (int i = 0; i < 100; i++) {
      x.passes(99);
    }
    x.passes(steps);
    return x;
  }

  /** The STATEMENT comes; without its end, or with a wrong sign anywhere, there is a FAULT just there. */
  private static void form(String ahead, String statement) {
    SiphonsBench whole = made(ahead);
    due(Edge.tell(whole, statement), 1);
    for (int i = 0; i < statement.length(); i++) {
      due(Edge.tell(made(ahead), statement.substring(0, i)), -1000 - i);
      due(Edge.tell(made(ahead), statement.substring(0, i) + "!"), -1000 - i);
      String wrong = statement.substring(0, i) + "!" + statement.substring(i + 1);
      SiphonsBench x = made(ahead);
      due(Edge.tell(x, wrong), -1000 - i);
      Edge.alike(x, made(ahead));
    }
  }

  private static SiphonsBench made(String text) {
    return text.isEmpty() ? new SiphonsBench() : told(text);
  }

  private static void letters() {
    says("Told in letters (120 at most)", () -> {
      SiphonsBench x = new SiphonsBench();
      StringBuilder most = new StringBuilder();
      for (int i = 0; i < 40; i++) {
        most.append("s1;");
      }
      due(Edge.tell(x, most.toString()), 40);
      due(x.count(2), 40);
      SiphonsBench more = new SiphonsBench();
      due(Edge.tell(more, most + "s"), 40);
      due(more.count(16), 1);
    });
    says("STATEMENTS, each with \";\" behind", () -> {
      due(tells("s1"), -1002);
      due(tells("s1;s1"), -1005);
      due(tells("s1s1;"), -1002);
      due(tells("s1;;"), -1003);
      due(tells("s1;s1;"), 2);
    });
    says("numbers of one or two digits", () -> {
      due(tells("v9,00,09;"), 1);
      due(tells("v09,20,30;"), 1);
      due(tells("s;"), -1001);
      due(tells("s001;"), -1003);
      due(tells("v1,0,100;"), -1007);
      due(tells("v,0,1;"), -1001);
      due(tells("v1,,1;"), -1003);
      due(tells("s-1;"), -1001);
      due(tells("s+1;"), -1001);
      due(tells("s:;"), -1001);
      due(tells("s/;"), -1001);
      due(tells("s1:;"), -1002);
      due(tells("s1/;"), -1002);
    });
    says("\"v\" AREA \",\" BASE \",\" RIM: a VESSEL more", () -> {
      form("", "v4,16,30;");
      SiphonsBench x = told("v4,16,30;");
      due(x.of(0, 0), 4);
      due(x.of(0, 1), 16);
      due(x.of(0, 2), 30);
    });
    says("\"p\" FIRST \">\" SECOND \",\" MOUTH \",\" MOUTH \",\" RATE: a PIPE more", () -> {
      form("v1,0,30;v1,0,30;", "p1>00,5,28,7;");
      SiphonsBench x = told("v1,0,30;v1,0,30;p1>00,5,28,7;");
      int[] was = {0, 0, 1, 0, 5, 28, 7, 0, -9};
      for (int what = 0; what < 9; what++) {
        due(x.ofPipe(0, what), was[what]);
      }
    });
    says("(KIND 0, FIGURE 0)", () -> {
      SiphonsBench x = told("v1,0,30;v1,0,30;p1>0,5,28,7;k0=5,9;p1>0,5,28,7;");
      due(x.ofPipe(1, 0), 0);
      due(x.ofPipe(1, 1), 0);
    });
    says("\"k\" a PIPE \"=\" KIND \",\" FIGURE", () -> {
      form("v1,0,30;v1,0,30;p1>0,5,28,7;", "k0=3,09;");
      SiphonsBench x = told("v1,0,30;v1,0,30;p1>0,5,28,7;k00=3,9;");
      due(x.ofPipe(0, 0), 3);
      due(x.ofPipe(0, 1), 9);
    });
    says("\"w\" a VESSEL \"=\" WATER", () -> {
      form("v1,0,30;", "w0=30;");
      due(told("v9,0,30;w0=99;").of(0, 3), 99);
    });
    says("\"t\" a VESSEL \"=\" TAP", () -> {
      form("v1,0,30;", "t0=09;");
      due(told("v9,0,30;t0=9;").of(0, 4), 9);
    });
    says("\"s\" STEPS (1 .. 99) pass", () -> {
      form("", "s99;");
      due(told("s1;").count(2), 1);
      due(told("s99;").count(2), 99);
      due(tells("s0;"), -2000);
      due(tells("s00;"), -2000);
      due(tells("s1;s0;"), -2003);
    });
    says("At least one.", () -> {
      SiphonsBench x = new SiphonsBench();
      due(x.tells(), -1000);
      due(Edge.tell(x, "s1;"), 1);
      due(x.tells(), -1000);
      due(x.count(2), 1);
    });
  }

  private static void faults() {
    says("kind 1 the place of the first letter with which no STATEMENTS can go on", () -> {
      for (String wrong : new String[] {"x", "V", ";", " ", ",", "0", "\u0000", "\u00ff", "\n"}) {
        due(tells(wrong), -1000);
        due(tells(wrong + "s1;"), -1000);
        due(tells("s1;" + wrong), -1003);
        due(tells("s1;" + wrong + "?"), -1003);
      }
      due(tells("v1>0,1;"), -1002);
      due(tells("p0,1,0,0,1;"), -1002);
      due(tells("p0>1>0,0,1;"), -1004);
      due(tells("p0>1,0,0;"), -1008);
      due(tells("p0>1,0,0,1,"), -1010);
      due(tells("k0,0,0;"), -1002);
      due(tells("k0=0=0;"), -1004);
      due(tells("k0=0;"), -1004);
      due(tells("w0,0;"), -1002);
      due(tells("w0=0,"), -1004);
      due(tells("t0>0;"), -1002);
      due(tells("s1,"), -1002);
      due(tells("v1,0;"), -1004);
      due(tells("v1,0,1,"), -1006);
    });
    says("(the end, if something lacks): -1000 less the place", () -> {
      due(tells(""), -1000);
      due(tells("v"), -1001);
      due(tells("v1,2,3;s9"), -1009);
      StringBuilder most = new StringBuilder();
      for (int i = 0; i < 39; i++) {
        most.append("s1;");
      }
      due(tells(most + "s1"), -1119);
      due(tells(most + "s11"), -1120);
    });
    says("else kind 2 the place of the first letter of the first STATEMENT", () -> {
      due(tells("s0;x"), -1003);
      due(tells("s0;s"), -1004);
      due(tells("w9=9;v0,0,0"), -1011);
      due(tells("s0;w0=0;"), -2000);
      due(tells("s1;w0=0;s0;"), -2003);
      due(tells("s01;v0,0,1;s0;"), -2004);
    });
    says("that, behind all ahead of it in the text, is not as it must be", () -> {
      due(tells("v1,0,1;w0=1;"), 2);
      due(tells("w0=1;v1,0,1;"), -2000);
      due(tells("v1,0,1;w0=2;"), -2007);
      due(tells("v1,0,1;v1,0,1;v1,0,1;v1,0,1;v1,0,1;"), 5);
      due(tells("v1,0,1;v1,0,1;v1,0,1;v1,0,1;v1,0,1;v1,0,1;"), -2035);
      String pipes = "v1,0,1;v1,0,1;";
      for (int p = 0; p < 8; p++) {
        pipes += "p0>1,0,0,1;";
      }
      due(tells(pipes), 10);
      due(tells(pipes + "p0>1,0,0,1;"), -2102);
      due(tells("v1,0,1;v1,0,1;k0=1,0;p0>1,0,0,1;"), -2014);
      due(tells("v1,0,1;v1,0,1;p0>1,0,0,1;k0=1,0;"), 4);
    });
    says("(as vessel(), pipe() .. refuse it): -2000 less the place", () -> {
      String[] of = {"v0,0,1;", "v10,0,1;", "v1,21,1;", "v1,0,0;", "v1,0,31;", "p0>2,0,0,1;",
        "p2>0,0,0,1;", "p1>1,0,0,1;", "p0>1,2,0,1;", "p0>1,0,4,1;", "p0>1,0,16,1;", "p0>1,0,5,0;",
        "p0>1,0,5,10;", "k1=0,0;", "k0=6,0;", "k0=0,10;", "w2=0;", "w0=2;", "w1=11;", "t2=0;",
        "t0=10;", "s0;"};
      for (String wrong : of) {
        due(tells("v1,0,1;v1,5,10;p0>1,0,5,1;" + wrong), -2026);
        due(tells("v1,0,1;v1,5,10;p0>1,0,5,1;s1;" + wrong + "s0;"), -2029);
      }
    });
    says("Without FAULT all of it comes", () -> {
      SiphonsBench x = told("v4,6,10;v9,0,30;p0>1,16,0,9;k0=4,3;w0=39;t0=8;s2;");
      due(x.count(0), 2);
      due(x.count(1), 1);
      due(x.count(2), 2);
      due(x.of(0, 3), 40);
      due(x.of(1, 3), 15);
    });
    says("with one nothing", () -> {
      String bench = "v1,10,9;v9,0,9;p0>1,10,0,1;k0=1,0;t0=9;s1;";
      String[] wrong = {"v1,0,1;s0;", "p1>0,0,10,1;s0;", "k0=0,0;s0;", "w0=0;s0;", "t0=0;s0;",
        "s99;s0;", "s99;x", "w0=0;w0", "t0=1;w0=10;"};
      for (String text : wrong) {
        SiphonsBench x = told(bench);
        due(Edge.tell(x, text) < 0 ? 1 : 0, 1);
        Edge.alike(x, told(bench));
      }
    });
  }

  private static void inMind() {
    says("n STEPS (0 .. 99)", () -> {
      SiphonsBench x = told("v9,0,30;t0=2;w0=5;");
      due(x.then(-1, 0, 0), -4);
      due(x.then(0, 0, 0), 5);
      due(x.then(99, 0, 0), 203);
      due(x.then(100, 0, 0), -6);
      due(x.of(0, 3), 5);
    });
    says("OVER: behind how many STEPS (1 .. 200) something first runs OVER a VESSEL's RIM; -9", () -> {
      due(told("v1,0,1;w0=1;t0=1;").over(0), 1);
      due(told("v1,0,1;t0=1;").over(0), 2);
      due(told("v1,0,1;w0=1;").over(0), -9);
      SiphonsBench x = told("v9,0,23;t0=1;w0=8;");
      due(x.over(0), 200);
      x.water(0, 7);
      due(x.over(0), -9);
      due(told("v1,0,9;v1,0,1;t1=1;").over(0), -9);
    });
    says("DRY: behind how many (0 .. 200) WATER of a VESSEL is first 0; -9", () -> {
      due(told("v1,0,1;t0=1;").dry(0), 0);
      due(told("v1,0,1;w0=1;").dry(0), -9);
      SiphonsBench x = told("v7,20,29;v9,0,1;p0>1,20,0,1;");
      x.water(0, 1);
      due(x.dry(0), 1);
      x.water(0, 200);
      due(x.dry(0), 200);
      x.water(0, 201);
      due(x.dry(0), -9);
    });
    says("STARTS: behind how many (1 .. 200) a PIPE first RUNS", () -> {
      due(told("v1,10,9;v9,0,9;p0>1,12,0,2;k0=1,3;w0=6;").starts(0), 1);
      SiphonsBench x = told("v9,0,23;v9,0,9;p0>1,1,0,1;k0=3,0;t0=1;w0=7;");
      due(x.starts(0), 200);
      x.water(0, 6);
      due(x.starts(0), -9);
    });
    says("that didn't ahead of that STEP; -9", () -> {
      // It RUNS now, and BREAKS: 6, 4, 2; then 3, 4, 5, 6.
      SiphonsBench x = told("v1,10,9;v9,0,30;p0>1,12,0,3;k0=1,3;t0=1;w0=9;s1;");
      due(x.ofPipe(0, 7), 1);
      due(x.starts(0) > 1 ? 1 : 0, 1);
      due(x.then(x.starts(0) - 1, 1, 0), 0);
      due(x.then(x.starts(0), 1, 0), 1);
      // It RUNS on and on: one each STEP comes, one goes.
      SiphonsBench on = told("v1,10,9;v9,0,1;p0>1,12,0,1;k0=1,3;t0=1;w0=6;s1;");
      due(on.then(99, 1, 0), 1);
      due(on.starts(0), -9);
    });
    says("TURNS of a PIPE within n STEPS: behind how many of these it RUNS", () -> {
      SiphonsBench x = told("v1,10,9;v9,0,30;p0>1,12,0,2;k0=1,3;t0=1;w0=2;");
      int[] within = {0, 0, 0, 0, 1, 1, 1, 1, 1, 1, 2};
      for (int n = 0; n < within.length; n++) {
        due(x.turns(0, n), within[n]);
      }
      due(x.turns(0, 99), 16);
      x.passes(4);
      due(x.ofPipe(0, 7), 1);
      due(x.turns(0, 1), 0);
    });
    says("ROUND: the first STEP (from now on, 0 .. 200)", () -> {
      SiphonsBench x = told("v9,0,22;t0=1;w0=1;");
      due(x.round(0), 200);
      x.water(0, 0);
      due(x.round(0), -9);
      due(x.round(1), -9);
      due(x.round(2), -9);
    });
    says("STEP modulo 3 are as behind an earlier one (0: as it is now)", () -> {
      SiphonsBench x = told("s1;");
      due(x.round(0), 3);
      due(x.round(1), 0);
      due(x.round(2), 3);
      SiphonsBench late = lateAs("v1,0,1;", 99);
      due(late.round(0), 1);
      due(late.round(1), 0);
      due(late.round(2), 1);
      // 9998 is as no other STEP, then 9999 stays: modulo 3 it is 2, 0, 0.
      SiphonsBench last = lateAs("v1,0,1;", 98);
      due(last.round(0), 2);
      due(last.round(1), 1);
    });
    says("behind which one first; how many STEPS lie between: told by what 0, 1, 2; -9", () -> {
      SiphonsBench x = told("v1,0,5;t0=2;");
      due(x.round(0), 6);
      due(x.round(1), 3);
      due(x.round(2), 3);
    });
    says("WATER of all VESSELS, and which PIPES RUN", () -> {
      // 3, 4, and by 5 it starts: 4 that RUNS, and so it stays; but for RUNS the first 4 were the same.
      SiphonsBench x = told("v1,10,9;v9,0,1;p0>1,10,0,1;k0=1,4;t0=1;w0=3;w1=9;");
      due(x.round(0), 5);
      due(x.round(1), 2);
      // The last VESSEL's WATER alone is another one.
      due(told("v1,0,1;v1,0,1;v1,0,1;v1,0,1;v1,0,5;t4=2;").round(0), 6);
      // Each number of WATER is another one, up to the greatest: 0, 2, .. 270.
      SiphonsBench most = lateAs("v9,0,30;v9,0,30;w0=1;", 99);
      most.tap(1, 2);
      due(most.round(0), 136);
      due(most.round(1), 135);
      most.water(1, 0);
      most.tap(1, 0);
      most.tap(0, 2);
      most.water(0, 0);
      due(most.round(0), 136);
    });
    says("In mind, from now on, n STEPS", EdgeTermsTests::apart);
  }

  /** What one call has in mind is nothing to another one: each answers as it would alone. */
  private static void apart() {
    Edge.Call[] calls = {
      x -> x.then(9, 0, 1), x -> x.then(9, 1, 0), x -> x.then(99, 2, 0), x -> x.over(1), x -> x.dry(0),
      x -> x.starts(0), x -> x.turns(0, 99), x -> x.round(0), x -> x.round(1), x -> x.least(0, 0, 60),
      x -> x.tapBest(0, 1, 20, 0), x -> x.tapBest(0, 1, 20, 1), x -> x.matters(40), x -> x.meets(0, 1),
      x -> x.leak(3, 30, 0), x -> x.leak(2, 30, 1), x -> x.judge(1), x -> x.whatIs(1, 0, 0),
      x -> x.whatIs(1, 1, 1), x -> x.lots(20, 5, 0), x -> x.lots(20, 5, 1), x -> x.goes(0)
    };
    for (Edge.Call first : calls) {
      for (Edge.Call call : calls) {
        SiphonsBench x = Edge.some();
        first.on(x);
        due(call.on(x), call.on(Edge.some()));
      }
      SiphonsBench x = Edge.some();
      SiphonsBench twin = Edge.some();
      first.on(x);
      due(x.passes(30), twin.passes(30));
      Edge.alike(x, twin);
    }
  }

  private static void best() {
    String drop = "v9,0,30;v9,0,9;p0>1,0,0,1;k0=1,9;t0=1;";
    says("LEAST of a VESSEL: the least WATER (0 .. AREA times RIM)", () -> {
      due(told("v1,0,10;v9,0,30;p0>1,2,0,3;k0=1,7;").least(0, 0, 1), 10);
      due(told("v1,0,10;v9,0,30;p0>1,2,0,3;k0=1,8;").least(0, 0, 60), -9);
      due(told("v1,0,10;v9,0,30;p0>1,2,0,3;k0=1,3;t0=6;").least(0, 0, 1), 0);
      due(told("v1,0,10;v9,0,30;p0>1,2,0,3;k0=1,3;t0=5;").least(0, 0, 1), 1);
    });
    says("behind some of the next n STEPS (1 .. 60); -9", () -> {
      due(told(drop).least(0, 0, 0), -4);
      due(told(drop).least(0, 0, 1), 89);
      due(told(drop).least(0, 0, 2), 88);
      due(told(drop).least(0, 0, 60), 30);
      due(told(drop).least(0, 0, 61), -6);
      // It RUNS behind the first of three alone.
      due(told("v1,0,9;v9,0,9;p0>1,0,0,1;k0=1,1;").least(0, 0, 3), 2);
      due(told("v1,0,9;v9,0,9;p0>1,0,0,1;k0=2,0;").least(0, 0, 60), -9);
    });
    says("TAP BEST: the TAP (0 .. 9) of a VESSEL by which WATER of a told VESSEL", () -> {
      due(told("v1,0,10;").tapBest(0, 0, 1, 0), 9);
      due(told("v1,0,10;").tapBest(0, 0, 1, 1), 9);
      // Any TAP makes the siphon start that empties it.
      SiphonsBench x = told("v1,10,9;v9,0,9;p0>1,10,0,9;k0=1,8;w0=8;");
      due(x.tapBest(0, 0, 1, 0), 0);
      due(x.tapBest(0, 0, 1, 1), 8);
      due(x.tapBest(0, 1, 1, 0), 1);
    });
    says("behind n STEPS (0 .. 99) is most", () -> {
      SiphonsBench x = told("v9,20,30;v9,0,30;p0>1,20,0,1;k0=2,0;w0=99;");
      due(x.tapBest(0, 1, -1, 0), -4);
      due(x.tapBest(0, 1, 0, 1), 0);
      due(x.tapBest(0, 1, 98, 1), 98);
      due(x.tapBest(0, 1, 99, 1), 99);
      due(x.tapBest(0, 1, 100, 0), -6);
    });
    says("of several the least; that WATER", () -> {
      due(told("v1,0,10;").tapBest(0, 0, 0, 0), 0);
      due(told("v1,0,10;").tapBest(0, 0, 5, 0), 2);
      due(told("v1,0,10;").tapBest(0, 0, 5, 1), 10);
      due(told("v1,0,10;v1,0,10;t0=3;w1=4;").tapBest(0, 1, 5, 0), 0);
      due(told("v1,0,10;v1,0,10;t0=3;w1=4;").tapBest(0, 1, 5, 1), 4);
    });
    says("(it doesn't GO, nor RUN)", () -> {
      // Both carry one away of two that come; the first is a SIPHON that RUNS.
      SiphonsBench x = told("v1,0,9;v9,0,9;p0>1,0,0,2;p0>1,0,0,1;k0=1,0;w0=9;t0=3;s1;");
      due(x.count(5), 1);
      due(x.matters(1), 0);
    });
    says("THE SUMP behind n STEPS (0 .. 99) differs most", () -> {
      SiphonsBench x = told("v1,20,5;v9,0,30;p0>1,20,0,1;p0>1,20,0,2;w0=5;t0=3;");
      due(x.matters(-1), -4);
      due(x.matters(0), 0);
      due(x.matters(1), 1);
      due(x.matters(99), 1);
      due(x.matters(100), -6);
    });
    says("(either way; not at all, too)", () -> {
      // Without the second less is lost; the first is never of use.
      due(told("v1,20,9;v1,0,1;v1,0,30;p0>2,20,0,1;p0>1,20,0,9;w0=9;w1=1;").matters(1), 1);
      due(told("v1,0,9;v1,0,9;p0>1,0,0,1;").matters(9), 0);
    });
    says("from what it is with it, of several the least", () -> {
      due(told("v1,0,5;v9,0,30;p0>1,0,0,1;p0>1,0,0,1;w0=5;t0=2;").matters(1), 0);
      due(told("v1,0,5;v9,0,30;p1>0,30,5,1;p0>1,0,0,1;p0>1,0,0,1;w0=5;t0=2;").matters(1), 1);
    });
    says("-9: there are no PIPES", () -> {
      due(told("v1,0,5;v9,0,30;t0=9;").matters(9), -9);
      due(new SiphonsBench().matters(0), -9);
      due(told("v1,0,9;v1,0,9;p0>1,0,0,1;").matters(0), 0);
    });
    says("the highest first, of alike ones by numbers: the i-th", () -> {
      SiphonsBench x = told("v2,3,9;v4,5,9;v3,5,9;v1,0,9;v9,2,9;w0=5;w1=2;w3=9;w2=2;w4=30;");
      // 5 1/2, 5 1/2, 5 2/3, 9, 5 1/3.
      int[] order = {3, 2, 0, 1, 4};
      for (int i = 0; i < 5; i++) {
        due(x.order(i), order[i]);
      }
      SiphonsBench alike = told("v1,0,9;v9,0,9;v5,0,9;");
      for (int i = 0; i < 3; i++) {
        due(alike.order(i), i);
      }
    });
    says("MEETS of two VESSELS: behind how many STEPS (0 .. 200) LEVELS are first alike; -9", () -> {
      due(told("v2,3,9;v4,5,9;w0=5;w1=2;").meets(0, 1), 0);
      SiphonsBench x = told("v9,0,30;v9,0,30;t0=1;");
      x.water(1, 1);
      due(x.meets(0, 1), 1);
      x.water(1, 200);
      due(x.meets(0, 1), 200);
      due(x.meets(1, 0), 200);
      x.water(1, 201);
      due(x.meets(0, 1), -9);
    });
  }

  private static void floats() {
    says("(the float of WATER divided by the float of AREA) plus the float of BASE; as bits", () -> {
      due(told("v9,0,1;").shown(0), 0);
      due(told("v9,0,1;w0=1;").shown(0), Float.floatToIntBits(1.0f / 9.0f));
      due(told("v7,20,30;w0=99;").shown(0), Float.floatToIntBits(99.0f / 7.0f + 20.0f));
      SiphonsBench most = told("v9,20,30;");
      most.water(0, 270);
      due(most.shown(0), Float.floatToIntBits(50.0f));
    });
    says("WORK: doubles: 0.0 at first", () -> {
      due(new SiphonsBench().work(0), 0);
      due(told("v9,20,30;").work(0), 0);
      due(told("v9,20,30;").work(1), 0);
    });
    says("that quotient divided by 2.0); as bits; as an int, cut", () -> {
      due(told("v1,0,1;w0=1;").work(0), Double.doubleToLongBits(0.5));
      due(told("v1,0,1;w0=1;").work(1), 0);
      due(told("v1,0,3;w0=3;").work(1), 4);
      due(told("v3,2,9;w0=7;").work(0), Double.doubleToLongBits(7.0 * (2.0 + 7.0 / 3.0 / 2.0)));
      due(told("v3,2,9;w0=7;").work(1), 22);
    });
    says("with odds 1 in t (2 .. 20)", () -> {
      SiphonsBench x = told("v1,0,5;v1,0,30;p0>1,0,0,2;w0=5;t0=1;");
      due(x.leak(1, 1, 1), 4000000000000000004L);
      due(x.leak(2, 1, 0), 1);
      due(x.leak(2, 1, 1), 2);
      due(x.leak(20, 1, 0), 1);
      due(x.leak(20, 1, 1), 20);
      due(x.leak(21, 1, 1), 4000000000000000006L);
    });
    says("how likely something runs OVER within n STEPS (1 .. 30)", () -> {
      SiphonsBench x = told("v1,0,30;t0=1;w0=1;");
      due(x.leak(2, 0, 0), 4000000000000000004L);
      due(x.leak(2, 1, 0), 0);
      due(x.leak(2, 29, 0), 0);
      due(x.leak(2, 30, 0), 1);
      due(x.leak(2, 31, 0), 4000000000000000006L);
    });
    says("a fraction in least terms (0 by 1, if never)", () -> {
      // Of four cases two are alike.
      SiphonsBench x = told("v1,0,5;v1,0,30;p0>1,0,0,2;p1>0,30,5,2;k1=2,0;w0=5;t0=1;");
      due(x.leak(2, 1, 0), 1);
      due(x.leak(2, 1, 1), 2);
      x.tap(0, 0);
      due(x.leak(2, 30, 0), 0);
      due(x.leak(2, 30, 1), 1);
      x.tap(0, 9);
      due(x.leak(2, 30, 0), 1);
      due(x.leak(2, 30, 1), 1);
    });
    says("each of PIPES, by itself, doesn't GO, nor RUN, from now on", () -> {
      SiphonsBench x = told("v1,0,5;v1,0,30;p0>1,0,0,1;p0>1,0,0,1;w0=5;t0=2;");
      due(x.leak(4, 1, 0), 7);
      due(x.leak(4, 1, 1), 16);
      SiphonsBench runs = told("v1,10,9;v9,0,9;p0>1,10,0,9;k0=1,0;w0=9;t0=9;s1;");
      due(runs.count(5), 1);
      due(runs.leak(5, 1, 0), 1);
      due(runs.leak(5, 1, 1), 5);
      SiphonsBench eight = told("v1,20,9;v9,0,9;w0=9;t0=1;");
      for (int p = 0; p < 8; p++) {
        eight.pipe(0, 1, 20, 0, 9);
      }
      due(eight.leak(20, 1, 0), 1);
      due(eight.leak(20, 1, 1), 25600000000L);
    });
    says("ALL: WATER of all, and THE SUMP, together", () -> {
      due(new SiphonsBench().all(), 0);
      due(told("v1,0,5;v2,3,9;w0=4;w1=7;t0=3;s2;").all(), 17);
    });
  }

  private static void lists() {
    says("a LIST tells WATER of VESSEL 0 behind 0, 1, .. STEPS", () -> {
      SiphonsBench x = told("v1,0,9;v1,0,9;t0=2;t1=1;");
      due(Edge.fill(x, 0, 0, 2, 4, 6, 8, 9, 9).judge(0), -9);
      due(Edge.fill(x, 0, 1, 2, 4).judge(0), 0);
      due(Edge.fill(x, 0, 0, 1, 2).judge(0), 1);
      due(Edge.fill(x, 0, 0, 2, 4, 7).judge(0), 3);
    });
    says("JUDGED: the first that is otherwise; -9", () -> {
      SiphonsBench x = told("v1,0,9;t0=2;");
      due(Edge.fill(x, 0, 0, 3, 3, 3).judge(0), 1);
      int[] most = new int[20];
      for (int i = 0; i < 20; i++) {
        most[i] = Math.min(9, 2 * i);
      }
      due(Edge.fill(x, 0, most).judge(0), -9);
      most[19] = 8;
      due(Edge.fill(x, 0, most).judge(0), 19);
    });
    says("(the least int is skipped: it is so; an empty LIST: -9)", () -> {
      SiphonsBench x = told("v1,0,9;t0=2;");
      due(Edge.fill(x, 0, LEAST, 2, LEAST, 7).judge(0), 3);
      due(Edge.fill(x, 0, LEAST, LEAST).judge(0), -9);
      due(Edge.fill(x, 0, LEAST + 1).judge(0), 0);
      due(Edge.fill(x, 0, Integer.MAX_VALUE).judge(0), 0);
      due(Edge.fill(x, 0, -1).judge(0), 0);
      due(Edge.fill(x, 0).judge(0), -9);
    });
    // Six stand above the first MOUTH; CREST of a SIPHON is 12, of a CUP 18.
    String bench = "v1,10,9;v9,0,9;p0>1,10,0,1;k0=0,1;w0=6;";
    says("(below 0: from SECOND to FIRST), were RATE 1, 2, .. 9", () -> {
      SiphonsBench x = told(bench);
      due(Edge.fill(x, 0, 1, 2, 3, 4, 5, 6, 6, 6, 6).whatIs(0, 0, 0), 7);
      due(Edge.fill(x, 0, 1, 2, 3, 4, 5, 6, 6, 6, 7).whatIs(0, 0, 0), 0);
      due(Edge.fill(x, 0, 2).whatIs(0, 0, 0), 0);
      SiphonsBench back = told("v9,0,9;v1,10,9;p0>1,0,10,2;w1=2;");
      due(Edge.fill(back, 0, -1, -2, -2).whatIs(0, 0, 0), 1);
      due(Edge.fill(back, 0, 1, 2, 2).whatIs(0, 0, 0), 0);
      due(Edge.fill(back, 0, 0, 0).whatIs(0, 0, 0), 62);
    });
    says("(as many as it tells, those behind the ninth are not looked at", () -> {
      SiphonsBench x = told(bench);
      due(Edge.fill(x, 0, 1).whatIs(0, 0, 0), 7);
      due(Edge.fill(x, 0, 1, 1).whatIs(0, 0, 0), 0);
      due(Edge.fill(x, 0, 1, 2, 3, 4, 5, 6, 6, 6, 5).whatIs(0, 0, 0), 0);
      due(Edge.fill(x, 0, 1, 2, 3, 4, 5, 6, 6, 6, 6, 77).whatIs(0, 0, 0), 7);
      due(Edge.fill(x, 0, 1, 2, 3, 4, 5, 6, 6, 6, 6, LEAST, 0, 5).whatIs(0, 0, 1), 1023);
    });
    says("of none all is so", () -> {
      SiphonsBench x = told(bench);
      due(Edge.fill(x, 0).whatIs(0, 0, 0), 63);
      due(Edge.fill(x, 0).whatIs(0, 0, 1), 1023);
    });
    says("RUNS as it is, also for another KIND)", () -> {
      SiphonsBench x = told(bench + "k0=1,1;");
      due(Edge.fill(x, 0, 2, 4).whatIs(0, 0, 0), 0);
      x.passes(1);
      due(x.count(5), 1);
      due(Edge.fill(x, 0, 2, 4).whatIs(0, 0, 0), 8);
      due(Edge.fill(x, 0, 1, 2).whatIs(0, 0, 1), 1023);
      due(x.ofPipe(0, 0), 1);
    });
    says("KINDS (bits) by which, FIGURE as it is, all of it is so", () -> {
      due(Edge.fill(told(bench), 0, 6).whatIs(0, 0, 0), 16);
      due(Edge.fill(told(bench), 0, 0, 0).whatIs(0, 0, 0), 40);
      due(Edge.fill(told(bench + "k0=0,3;"), 0, 1, 2).whatIs(0, 0, 0), 1 + 2 + 4 + 32);
      due(Edge.fill(told(bench + "k0=0,4;"), 0, 2, 4).whatIs(0, 0, 0), 8);
    });
    says("FIGURES (bits 0 .. 9) by which, KIND as it is", () -> {
      due(Edge.fill(told(bench + "k0=5,1;"), 0, 1, 2).whatIs(0, 0, 1), 1 + 8 + 64 + 512);
      due(Edge.fill(told(bench + "k0=3,1;"), 0, 2, 4).whatIs(0, 0, 1), 1016);
      due(Edge.fill(told(bench + "k0=1,1;"), 0, 1, 2).whatIs(0, 0, 1), 63);
      due(Edge.fill(told(bench + "k0=1,1;"), 0, 0).whatIs(0, 0, 1), 1023 - 63);
    });
    rows();
  }

  private static final int LEAST = Edge.LEAST;

  private static void rows() {
    says("LISTS 0 .. 3 are rows of ints (20 at most)", () -> {
      SiphonsBench x = new SiphonsBench();
      for (int list = 0; list < 4; list++) {
        due(x.list(list, 20), 1);
        due(x.put(list, 19, 1), 1);
        due(x.put(list, 20, 1), -13);
      }
      due(x.list(4, 20), -1);
      due(x.list(-1, 20), -1);
      due(x.list(0, 21), -6);
    });
    says("missing at first", () -> {
      SiphonsBench x = told("v1,0,1;v1,0,1;p0>1,0,0,1;");
      for (int list = 0; list < 4; list++) {
        due(x.judge(list), -11);
        due(x.whatIs(list, 0, 0), -11);
        due(x.put(list, 0, 0), -11);
        due(x.lays(list, 0), -11);
      }
    });
    says("RACKS 0 .. 2 are rows for PIPES (as they were when laid)", () -> {
      SiphonsBench x = told("v1,0,1;v1,0,1;p0>1,0,0,1;k0=5,0;");
      for (int rack = 0; rack < 3; rack++) {
        due(x.rack(rack, 0, 9), 1);
        due(x.racks(rack, 8, 0), 1);
        due(x.racks(rack, 9, 0), -13);
      }
      due(x.rack(3, 0, 9), -1);
      due(x.rack(-1, 0, 9), -1);
      x.kind(0, 1, 0);
      due(x.racked(0, 8), 5);
      due(x.racked(2, 8), 5);
    });
    says("each made for a KIND and those under it; missing at first", () -> {
      SiphonsBench x = told("v1,0,1;v1,0,1;p0>1,0,0,1;");
      for (int rack = 0; rack < 3; rack++) {
        due(x.racked(rack, 0), -11);
        due(x.racks(rack, 0, 0), -11);
        due(x.like(0, rack), -11);
      }
    });
  }

  private static void lots() {
    // The first DRAWS below ten: by the seed 0 3, 7, 6, 9, 9, 0; by -1 1, 0, 6, 7, 8, 9.
    says("LOTS with a seed z: n benches (1 .. 20), each from now", () -> {
      SiphonsBench x = told("v1,0,9;t0=1;");
      due(x.lots(0, 0, 0), -4);
      due(x.lots(21, 0, 0), -6);
      due(x.lots(1, 0, 0), 24);
      due(x.lots(2, 0, 0), 24 + 28);
      due(x.lots(20, 0, 0), lostOf(0, 20));
      due(x.count(3) + x.of(0, 3) + x.count(2), 0);
    });
    says("WATER of each VESSEL is a DRAW below AREA times RIM and 1", () -> {
      // Two VESSELS by turns: 3 and 7, 6 and 9.
      SiphonsBench x = told("v1,0,9;v3,0,3;t0=1;t1=1;");
      due(x.lots(1, 0, 0), 24 + 28);
      due(x.lots(2, 0, 0), 24 + 28 + 27 + 30);
      // A brim of one: DRAWS below two.
      due(told("v1,0,1;t0=1;").lots(20, 7, 0), drawn(7, 20, 2) + 20 * 29);
    });
    says("then 30 STEPS: WATER that ran OVER, of all", () -> {
      due(told("v1,0,30;t0=1;").lots(1, 0, 0), drawn(0, 1, 31));
      due(told("v1,0,9;").lots(20, 0, 0), 0);
    });
    says("how many PIPES RUN then, of all", () -> {
      SiphonsBench x = told("v1,10,9;v9,0,1;p0>1,10,0,1;k0=1,0;t0=1;");
      due(x.lots(1, 0, 1), 1);
      due(x.lots(2, 0, 1), 2);
      due(told("v1,10,9;v9,0,1;p0>1,10,0,1;k0=2,0;t0=1;").lots(2, 0, 1), 0);
    });
    says("z becomes z times 1664525 and 1013904223 (an int)", () -> {
      due(told("v1,0,9;t0=1;").lots(1, -1, 0), 22);
      due(told("v1,0,9;t0=1;").lots(2, -1, 0), 22 + 21);
      due(told("v1,0,9;t0=1;").lots(6, -1, 0), 22 + 21 + 27 + 28 + 29 + 30);
      due(told("v1,0,9;t0=1;").lots(6, Integer.MAX_VALUE, 0), 22 + 21 + 27 + 28 + 29 + 30);
      due(told("v1,0,9;t0=1;").lots(20, 123456789, 0), lostOf(123456789, 20));
    });
    says("(z without its sign's bit by 256, cut) modulo m", () -> {
      due(told("v1,0,9;t0=1;").lots(3, 0, 0), 24 + 28 + 27);
      due(told("v1,0,9;t0=1;").lots(6, 0, 0), 24 + 28 + 27 + 30 + 30 + 21);
      due(told("v1,0,9;t0=1;").lots(6, LEAST, 0), 24 + 28 + 27 + 30 + 30 + 21);
    });
  }

  /** The sum of the first DRAWS below m, counted by longs alone. */
  private static int drawn(int seed, int n, int m) {
    long z = seed & 0xffffffffL;
    long sum = 0;
    for (int i = 0; i < n; i++) {
      z = (z * 1664525L + 1013904223L) & 0xffffffffL;
      sum += (z & 0x7fffffffL) / 256 % m;
    }
    return (int) sum;
  }

  /** What runs OVER of a VESSEL that holds nine, with TAP 1, by so many DRAWS. */
  private static int lostOf(int seed, int n) {
    return drawn(seed, n, 10) + 21 * n;
  }

  private static void refusals() {
    says("THE IMAGE: VESSELS, PIPES with all that is theirs, THE SUMP, STEP; ON from it these are as then",
        EdgeTermsTests::imageOfAll);
    says("Fractions are told in least terms; 0 as 0 by 1", () -> {
      due(told("v6,0,5;w0=4;").level(0, 0), 2);
      due(told("v6,0,5;w0=4;").level(0, 1), 3);
      due(told("v6,0,5;w0=30;").level(0, 1), 1);
      due(told("v6,0,5;").level(0, 0), 0);
      due(told("v6,0,5;").level(0, 1), 1);
    });
    says("(the call answers the number, the first that fits in the order in which it tells them", () -> {
      due(Edge.some().kind(9, 9, 10), -1);
      due(Edge.some().kind(0, 9, 10), -2);
      due(Edge.some().kind(0, 5, 10), -6);
      due(Edge.some().pipe(0, 9, 99, 99, 0), -1);
      due(Edge.some().pipe(0, 1, 99, 99, 0), -4);
      due(Edge.some().pipe(0, 1, 99, 99, 10), -6);
      due(Edge.some().pipe(0, 1, 99, 99, 9), -3);
    });
    says("nothing changes but how many there were)", () -> {
      Edge.refused(-1, x -> x.kind(9, 0, 0));
      Edge.refused(-2, x -> x.kind(0, 9, 0));
      Edge.refused(-3, x -> x.pipe(0, 1, 0, 0, 1));
      Edge.refused(-4, x -> x.kind(0, 0, -1));
      Edge.refused(-6, x -> x.kind(0, 0, 10));
    });
    says("-1 NOBODY: no such VESSEL, PIPE, LIST, RACK, one twice", () -> Edge.refused(-1,
        x -> x.over(3), x -> x.starts(2), x -> x.list(4, 1), x -> x.rack(3, 0, 1),
        x -> x.meets(1, 1), x -> x.pipe(1, 1, 5, 5, 1)));
    says("-2 OTHER: what, KIND", () -> Edge.refused(-2,
        x -> x.of(0, 5), x -> x.kind(0, 6, 0), x -> x.rack(0, 6, 1)));
    says("-3 STATE: it is not as it must be", () -> Edge.refused(SiphonsBench::new, -3, x -> x.on()));
    says("-4 BELOW: a number below the least", () -> Edge.refused(-4, x -> x.passes(0)));
    says("-6 ROOM: a number above the greatest, no room", () -> {
      Edge.refused(-6, x -> x.passes(100));
      Edge.refused(Edge::full, -6, x -> x.vessel(1, 0, 1));
    });
    says("Of longs 4000000000000000000 less them (-1 as 4000000000000000001)", () -> {
      due(Edge.some().level(3, 0), 4000000000000000001L);
      due(Edge.some().level(0, 2), 4000000000000000002L);
      due(Edge.some().leak(1, 1, 0), 4000000000000000004L);
      due(Edge.some().leak(21, 1, 0), 4000000000000000006L);
    });
    says("Not counted: of LISTS and RACKS -11 it is missing, -13 no such place, -14 a size below 0, "
        + "-16 it isn't made for such", () -> {
      Edge.refused(-11, x -> x.judge(0), x -> x.racked(0, 0));
      Edge.refused(-13, x -> x.put(1, 4, 0), x -> x.racked(1, 3));
      Edge.refused(-14, x -> x.list(0, -1), x -> x.rack(0, 0, -1));
      Edge.refused(-16, x -> x.racks(1, 0, 1));
    });
  }

  private static void imageOfAll() {
    String bench = "v1,10,5;v9,0,9;p0>1,10,0,1;k0=1,0;t0=3;w0=5;s2;";
    SiphonsBench x = told(bench);
    SiphonsBench twin = told(bench);
    due(x.count(5), 1);
    due(x.count(3), 4);
    due(x.image(), 2);
    due(twin.image(), 2);
    x.water(0, 2);
    x.tap(0, 9);
    x.kind(0, 4, 4);
    x.rate(0, 9);
    x.vessel(2, 20, 2);
    x.pipe(2, 1, 20, 0, 2);
    x.passes(9);
    due(x.on(), 2);
    Edge.alike(x, twin);
  }

  public static void main(String[] args) {
    Edge.section("Terms");
    vessels();
    pipes();
    kinds();
    heads();
    siphons();
    steps();
    letters();
    faults();
    inMind();
    best();
    floats();
    lists();
    lots();
    refusals();
    Edge.finish("EdgeTermsTests");
  }
}
