/**
 * The edges that the document's Terms name from part II on, what is asked in mind, LISTS, RACKS, THE IMAGE,
 * REFUSALS, in its order: each sentence by a test of its own.
 */
public final class EdgeQuestionTests extends Edge {
  private static void inMind() {
    says("n STEPS (0 .. 99)", () -> {
      SiphonsBench x = bench("v9,0,30;t0=2;w0=5;");
      due(x.then(-1, 0, 0), -4);
      due(x.then(0, 0, 0), 5);
      due(x.then(99, 0, 0), 203);
      due(x.then(100, 0, 0), -6);
      due(x.of(0, 3), 5);
    });
    says("OVER: behind how many STEPS (1 .. 200) something first runs OVER a VESSEL's RIM; -9", () -> {
      due(bench("v1,0,1;w0=1;t0=1;").over(0), 1);
      due(bench("v1,0,1;t0=1;").over(0), 2);
      due(bench("v1,0,1;w0=1;").over(0), -9);
      SiphonsBench x = bench("v9,0,23;t0=1;w0=8;");
      due(x.over(0), 200);
      x.water(0, 7);
      due(x.over(0), -9);
      due(bench("v1,0,9;v1,0,1;t1=1;").over(0), -9);
    });
    says("DRY: behind how many (0 .. 200) WATER of a VESSEL is first 0; -9", () -> {
      due(bench("v1,0,1;t0=1;").dry(0), 0);
      due(bench("v1,0,1;w0=1;").dry(0), -9);
      SiphonsBench x = bench("v7,20,29;v9,0,1;p0>1,20,0,1;");
      x.water(0, 1);
      due(x.dry(0), 1);
      x.water(0, 200);
      due(x.dry(0), 200);
      x.water(0, 201);
      due(x.dry(0), -9);
    });
    says("STARTS: behind how many (1 .. 200) a PIPE first RUNS", () -> {
      due(bench("v1,10,9;v9,0,9;p0>1,12,0,2;k0=1,3;w0=6;").starts(0), 1);
      SiphonsBench x = bench("v9,0,23;v9,0,9;p0>1,1,0,1;k0=3,0;t0=1;w0=7;");
      due(x.starts(0), 200);
      x.water(0, 6);
      due(x.starts(0), -9);
    });
    says("that didn't ahead of that STEP; -9", () -> {
      // It RUNS now, and BREAKS: 6, 4, 2; then 3, 4, 5, 6.
      SiphonsBench x = bench("v1,10,9;v9,0,30;p0>1,12,0,3;k0=1,3;t0=1;w0=9;s1;");
      due(x.ofPipe(0, 7), 1);
      due(x.starts(0) > 1 ? 1 : 0, 1);
      due(x.then(x.starts(0) - 1, 1, 0), 0);
      due(x.then(x.starts(0), 1, 0), 1);
      // It RUNS on and on: one each STEP comes, one goes.
      SiphonsBench on = bench("v1,10,9;v9,0,1;p0>1,12,0,1;k0=1,3;t0=1;w0=6;s1;");
      due(on.then(99, 1, 0), 1);
      due(on.starts(0), -9);
    });
    says("TURNS of a PIPE within n STEPS: behind how many of these it RUNS", () -> {
      SiphonsBench x = bench("v1,10,9;v9,0,30;p0>1,12,0,2;k0=1,3;t0=1;w0=2;");
      int[] within = {0, 0, 0, 0, 1, 1, 1, 1, 1, 1, 2};
      for (int n = 0; n < within.length; n++) {
        due(x.turns(0, n), within[n]);
      }
      due(x.turns(0, 99), 16);
      x.passes(4);
      due(x.ofPipe(0, 7), 1);
      due(x.turns(0, 1), 0);
    });
    says("ROUND: the first STEP (from now on, 0 .. 200)", () -> {
      SiphonsBench x = bench("v9,0,22;t0=1;w0=1;");
      due(x.round(0), 200);
      x.water(0, 0);
      due(x.round(0), -9);
      due(x.round(1), -9);
      due(x.round(2), -9);
    });
    says("STEP modulo 3 are as behind an earlier one (0: as it is now)", () -> {
      SiphonsBench x = bench("s1;");
      due(x.round(0), 3);
      due(x.round(1), 0);
      due(x.round(2), 3);
      SiphonsBench late = lateAs("v1,0,1;", 99);
      due(late.round(0), 1);
      due(late.round(1), 0);
      due(late.round(2), 1);
      // 9998 is as no other STEP, then 9999 stays: modulo 3 it is 2, 0, 0.
      SiphonsBench last = lateAs("v1,0,1;", 98);
      due(last.round(0), 2);
      due(last.round(1), 1);
    });
    says("behind which one first; how many STEPS lie between: told by what 0, 1, 2; -9", () -> {
      SiphonsBench x = bench("v1,0,5;t0=2;");
      due(x.round(0), 6);
      due(x.round(1), 3);
      due(x.round(2), 3);
    });
    says("WATER of all VESSELS, and which PIPES RUN", () -> {
      // 3, 4, and by 5 it starts: 4 that RUNS, and so it stays; but for RUNS the first 4 were the same.
      SiphonsBench x = bench("v1,10,9;v9,0,1;p0>1,10,0,1;k0=1,4;t0=1;w0=3;w1=9;");
      due(x.round(0), 5);
      due(x.round(1), 2);
      // The last VESSEL's WATER alone is another one.
      due(bench("v1,0,1;v1,0,1;v1,0,1;v1,0,1;v1,0,5;t4=2;").round(0), 6);
      // Each number of WATER is another one, up to the greatest: 0, 2, .. 270.
      SiphonsBench most = lateAs("v9,0,30;v9,0,30;w0=1;", 99);
      most.tap(1, 2);
      due(most.round(0), 136);
      due(most.round(1), 135);
      most.water(1, 0);
      most.tap(1, 0);
      most.tap(0, 2);
      most.water(0, 0);
      due(most.round(0), 136);
    });
    says("and which PIPES RUN, and STEP modulo 3", () -> {
      // The same SIPHON, as any of eight PIPES, the others idle, from any STEP on.
      for (int siphon = 0; siphon < 8; siphon++) {
        for (int step = 0; step < 3; step++) {
          SiphonsBench x = bench("v1,10,9;v9,0,1;w1=9;");
          for (int p = 0; p < 8; p++) {
            x.pipe(p == siphon ? 0 : 1, p == siphon ? 1 : 0, p == siphon ? 10 : 1, p == siphon ? 0 : 10, 1);
            x.kind(p, p == siphon ? 1 : 2, 4);
          }
          if (step > 0) {
            x.passes(step);
          }
          x.water(0, 3);
          x.tap(0, 1);
          due(x.round(0), 5);
          due(x.round(1), 2);
        }
      }
    });
    says("In mind, from now on, n STEPS", EdgeQuestionTests::apart);
  }

  /** What one call has in mind is nothing to another one: each answers as it would alone. */
  private static void apart() {
    Call[] calls = {
      x -> x.then(9, 0, 1), x -> x.then(9, 1, 0), x -> x.then(99, 2, 0), x -> x.over(1), x -> x.dry(0),
      x -> x.starts(0), x -> x.turns(0, 99), x -> x.round(0), x -> x.round(1), x -> x.least(0, 0, 60),
      x -> x.tapBest(0, 1, 20, 0), x -> x.tapBest(0, 1, 20, 1), x -> x.matters(40), x -> x.meets(0, 1),
      x -> x.leak(3, 30, 0), x -> x.leak(2, 30, 1), x -> x.judge(1), x -> x.whatIs(1, 0, 0),
      x -> x.whatIs(1, 1, 1), x -> x.lots(20, 5, 0), x -> x.lots(20, 5, 1), x -> x.goes(0)
    };
    for (Call first : calls) {
      for (Call call : calls) {
        SiphonsBench x = some();
        first.on(x);
        due(call.on(x), call.on(some()));
      }
      SiphonsBench x = some();
      SiphonsBench twin = some();
      first.on(x);
      due(x.passes(30), twin.passes(30));
      alike(x, twin);
    }
  }

  private static void best() {
    String drop = "v9,0,30;v9,0,9;p0>1,0,0,1;k0=1,9;t0=1;";
    says("LEAST of a VESSEL: the least WATER (0 .. AREA times RIM)", () -> {
      due(bench("v1,0,10;v9,0,30;p0>1,2,0,3;k0=1,7;").least(0, 0, 1), 10);
      due(bench("v1,0,10;v9,0,30;p0>1,2,0,3;k0=1,8;").least(0, 0, 60), -9);
      due(bench("v1,0,10;v9,0,30;p0>1,2,0,3;k0=1,3;t0=6;").least(0, 0, 1), 0);
      due(bench("v1,0,10;v9,0,30;p0>1,2,0,3;k0=1,3;t0=5;").least(0, 0, 1), 1);
    });
    says("behind some of the next n STEPS (1 .. 60); -9", () -> {
      due(bench(drop).least(0, 0, 0), -4);
      due(bench(drop).least(0, 0, 1), 89);
      due(bench(drop).least(0, 0, 2), 88);
      due(bench(drop).least(0, 0, 60), 30);
      due(bench(drop).least(0, 0, 61), -6);
      // It RUNS behind the first of three alone.
      due(bench("v1,0,9;v9,0,9;p0>1,0,0,1;k0=1,1;").least(0, 0, 3), 2);
      due(bench("v1,0,9;v9,0,9;p0>1,0,0,1;k0=2,0;").least(0, 0, 60), -9);
    });
    says("TAP BEST: the TAP (0 .. 9) of a VESSEL by which WATER of a told VESSEL", () -> {
      due(bench("v1,0,10;").tapBest(0, 0, 1, 0), 9);
      due(bench("v1,0,10;").tapBest(0, 0, 1, 1), 9);
      // Any TAP makes the siphon start that empties it.
      SiphonsBench x = bench("v1,10,9;v9,0,9;p0>1,10,0,9;k0=1,8;w0=8;");
      due(x.tapBest(0, 0, 1, 0), 0);
      due(x.tapBest(0, 0, 1, 1), 8);
      due(x.tapBest(0, 1, 1, 0), 1);
    });
    says("behind n STEPS (0 .. 99) is most", () -> {
      SiphonsBench x = bench("v9,20,30;v9,0,30;p0>1,20,0,1;k0=2,0;w0=99;");
      due(x.tapBest(0, 1, -1, 0), -4);
      due(x.tapBest(0, 1, 0, 1), 0);
      due(x.tapBest(0, 1, 98, 1), 98);
      due(x.tapBest(0, 1, 99, 1), 99);
      due(x.tapBest(0, 1, 100, 0), -6);
    });
    says("of several the least; that WATER", () -> {
      due(bench("v1,0,10;").tapBest(0, 0, 0, 0), 0);
      due(bench("v1,0,10;").tapBest(0, 0, 5, 0), 2);
      due(bench("v1,0,10;").tapBest(0, 0, 5, 1), 10);
      due(bench("v1,0,10;v1,0,10;t0=3;w1=4;").tapBest(0, 1, 5, 0), 0);
      due(bench("v1,0,10;v1,0,10;t0=3;w1=4;").tapBest(0, 1, 5, 1), 4);
    });
    says("(it doesn't GO, nor RUN)", () -> {
      // Both carry one away of two that come; the first is a SIPHON that RUNS.
      SiphonsBench x = bench("v1,0,9;v9,0,9;p0>1,0,0,2;p0>1,0,0,1;k0=1,0;w0=9;t0=3;s1;");
      due(x.count(5), 1);
      due(x.matters(1), 0);
    });
    says("THE SUMP behind n STEPS (0 .. 99) differs most", () -> {
      SiphonsBench x = bench("v1,20,5;v9,0,30;p0>1,20,0,1;p0>1,20,0,2;w0=5;t0=3;");
      due(x.matters(-1), -4);
      due(x.matters(0), 0);
      due(x.matters(1), 1);
      due(x.matters(99), 1);
      due(x.matters(100), -6);
    });
    says("(either way; not at all, too)", () -> {
      // Without the second less is lost; the first is never of use.
      due(bench("v1,20,9;v1,0,1;v1,0,30;p0>2,20,0,1;p0>1,20,0,9;w0=9;w1=1;").matters(1), 1);
      due(bench("v1,0,9;v1,0,9;p0>1,0,0,1;").matters(9), 0);
    });
    says("from what it is with it, of several the least", () -> {
      due(bench("v1,0,5;v9,0,30;p0>1,0,0,1;p0>1,0,0,1;w0=5;t0=2;").matters(1), 0);
      due(bench("v1,0,5;v9,0,30;p1>0,30,5,1;p0>1,0,0,1;p0>1,0,0,1;w0=5;t0=2;").matters(1), 1);
    });
    says("-9: there are no PIPES", () -> {
      due(bench("v1,0,5;v9,0,30;t0=9;").matters(9), -9);
      due(new SiphonsBench().matters(0), -9);
      due(bench("v1,0,9;v1,0,9;p0>1,0,0,1;").matters(0), 0);
    });
    says("the highest first, of alike ones by numbers: the i-th", () -> {
      SiphonsBench x = bench("v2,3,9;v4,5,9;v3,5,9;v1,0,9;v9,2,9;w0=5;w1=2;w3=9;w2=2;w4=30;");
      // 5 1/2, 5 1/2, 5 2/3, 9, 5 1/3.
      int[] order = {3, 2, 0, 1, 4};
      for (int i = 0; i < 5; i++) {
        due(x.order(i), order[i]);
      }
      SiphonsBench alike = bench("v1,0,9;v9,0,9;v5,0,9;");
      for (int i = 0; i < 3; i++) {
        due(alike.order(i), i);
      }
    });
    says("MEETS of two VESSELS: behind how many STEPS (0 .. 200) LEVELS are first alike; -9", () -> {
      due(bench("v2,3,9;v4,5,9;w0=5;w1=2;").meets(0, 1), 0);
      SiphonsBench x = bench("v9,0,30;v9,0,30;t0=1;");
      x.water(1, 1);
      due(x.meets(0, 1), 1);
      x.water(1, 200);
      due(x.meets(0, 1), 200);
      due(x.meets(1, 0), 200);
      x.water(1, 201);
      due(x.meets(0, 1), -9);
    });
  }

  private static void floats() {
    says("(the float of WATER divided by the float of AREA) plus the float of BASE; as bits", () -> {
      due(bench("v9,0,1;").shown(0), 0);
      due(bench("v9,0,1;w0=1;").shown(0), Float.floatToIntBits(1.0f / 9.0f));
      due(bench("v7,20,30;w0=99;").shown(0), Float.floatToIntBits(99.0f / 7.0f + 20.0f));
      SiphonsBench most = bench("v9,20,30;");
      most.water(0, 270);
      due(most.shown(0), Float.floatToIntBits(50.0f));
    });
    says("WORK: doubles: 0.0 at first", () -> {
      due(new SiphonsBench().work(0), 0);
      due(bench("v9,20,30;").work(0), 0);
      due(bench("v9,20,30;").work(1), 0);
    });
    says("that quotient divided by 2.0); as bits; as an int, cut", () -> {
      due(bench("v1,0,1;w0=1;").work(0), Double.doubleToLongBits(0.5));
      due(bench("v1,0,1;w0=1;").work(1), 0);
      due(bench("v1,0,3;w0=3;").work(1), 4);
      due(bench("v3,2,9;w0=7;").work(0), Double.doubleToLongBits(7.0 * (2.0 + 7.0 / 3.0 / 2.0)));
      due(bench("v3,2,9;w0=7;").work(1), 22);
    });
    says("with odds 1 in t (2 .. 20)", () -> {
      SiphonsBench x = bench("v1,0,5;v1,0,30;p0>1,0,0,2;w0=5;t0=1;");
      due(x.leak(1, 1, 1), 4000000000000000004L);
      due(x.leak(2, 1, 0), 1);
      due(x.leak(2, 1, 1), 2);
      due(x.leak(20, 1, 0), 1);
      due(x.leak(20, 1, 1), 20);
      due(x.leak(21, 1, 1), 4000000000000000006L);
    });
    says("how likely something runs OVER within n STEPS (1 .. 30)", () -> {
      SiphonsBench x = bench("v1,0,30;t0=1;w0=1;");
      due(x.leak(2, 0, 0), 4000000000000000004L);
      due(x.leak(2, 1, 0), 0);
      due(x.leak(2, 29, 0), 0);
      due(x.leak(2, 30, 0), 1);
      due(x.leak(2, 31, 0), 4000000000000000006L);
    });
    says("something runs OVER within n STEPS", () -> {
      // What ran OVER before is not what is asked; what runs OVER of any VESSEL is.
      SiphonsBench x = bench("v1,0,5;v1,0,30;p0>1,0,0,2;w0=5;t0=1;s40;");
      due(x.count(3) > 0 ? 1 : 0, 1);
      x.water(0, 0);
      x.water(1, 0);
      due(x.leak(2, 1, 0), 0);
      due(x.leak(2, 1, 1), 1);
      // The PIPE would carry two of it back.
      x.water(1, 30);
      x.tap(1, 1);
      due(x.leak(2, 1, 0), 1);
      due(x.leak(2, 1, 1), 2);
    });
    says("a fraction in least terms (0 by 1, if never)", () -> {
      // Of four cases two are alike.
      SiphonsBench x = bench("v1,0,5;v1,0,30;p0>1,0,0,2;p1>0,30,5,2;k1=2,0;w0=5;t0=1;");
      due(x.leak(2, 1, 0), 1);
      due(x.leak(2, 1, 1), 2);
      x.tap(0, 0);
      due(x.leak(2, 30, 0), 0);
      due(x.leak(2, 30, 1), 1);
      x.tap(0, 9);
      due(x.leak(2, 30, 0), 1);
      due(x.leak(2, 30, 1), 1);
    });
    says("each of PIPES, by itself, doesn't GO, nor RUN, from now on", () -> {
      SiphonsBench x = bench("v1,0,5;v1,0,30;p0>1,0,0,1;p0>1,0,0,1;w0=5;t0=2;");
      due(x.leak(4, 1, 0), 7);
      due(x.leak(4, 1, 1), 16);
      SiphonsBench runs = bench("v1,10,9;v9,0,9;p0>1,10,0,9;k0=1,0;w0=9;t0=9;s1;");
      due(runs.count(5), 1);
      due(runs.leak(5, 1, 0), 1);
      due(runs.leak(5, 1, 1), 5);
      SiphonsBench eight = bench("v1,20,9;v9,0,9;w0=9;t0=1;");
      for (int p = 0; p < 8; p++) {
        eight.pipe(0, 1, 20, 0, 9);
      }
      due(eight.leak(20, 1, 0), 1);
      due(eight.leak(20, 1, 1), 25600000000L);
    });
    says("ALL: WATER of all, and THE SUMP, together", () -> {
      due(new SiphonsBench().all(), 0);
      due(bench("v1,0,5;v2,3,9;w0=4;w1=7;t0=3;s2;").all(), 17);
    });
  }

  private static void lists() {
    says("a LIST tells WATER of VESSEL 0 behind 0, 1, .. STEPS", () -> {
      SiphonsBench x = bench("v1,0,9;v1,0,9;t0=2;t1=1;");
      due(fill(x, 0, 0, 2, 4, 6, 8, 9, 9).judge(0), -9);
      due(fill(x, 0, 1, 2, 4).judge(0), 0);
      due(fill(x, 0, 0, 1, 2).judge(0), 1);
      due(fill(x, 0, 0, 2, 4, 7).judge(0), 3);
    });
    says("JUDGED: the first that is otherwise; -9", () -> {
      SiphonsBench x = bench("v1,0,9;t0=2;");
      due(fill(x, 0, 0, 3, 3, 3).judge(0), 1);
      int[] most = new int[20];
      for (int i = 0; i < 20; i++) {
        most[i] = Math.min(9, 2 * i);
      }
      due(fill(x, 0, most).judge(0), -9);
      most[19] = 8;
      due(fill(x, 0, most).judge(0), 19);
    });
    says("(the least int is skipped: it is so; an empty LIST: -9)", () -> {
      SiphonsBench x = bench("v1,0,9;t0=2;");
      due(fill(x, 0, LEAST, 2, LEAST, 7).judge(0), 3);
      due(fill(x, 0, LEAST, LEAST).judge(0), -9);
      due(fill(x, 0, LEAST + 1).judge(0), 0);
      due(fill(x, 0, Integer.MAX_VALUE).judge(0), 0);
      due(fill(x, 0, -1).judge(0), 0);
      due(fill(x, 0).judge(0), -9);
    });
    // Six stand above the first MOUTH; CREST of a SIPHON is 12, of a CUP 18.
    String text = "v1,10,9;v9,0,9;p0>1,10,0,1;k0=0,1;w0=6;";
    says("(below 0: from SECOND to FIRST), were RATE 1, 2, .. 9", () -> {
      SiphonsBench x = bench(text);
      due(fill(x, 0, 1, 2, 3, 4, 5, 6, 6, 6, 6).whatIs(0, 0, 0), 7);
      due(fill(x, 0, 1, 2, 3, 4, 5, 6, 6, 6, 7).whatIs(0, 0, 0), 0);
      due(fill(x, 0, 2).whatIs(0, 0, 0), 0);
      SiphonsBench back = bench("v9,0,9;v1,10,9;p0>1,0,10,2;w1=2;");
      due(fill(back, 0, -1, -2, -2).whatIs(0, 0, 0), 1);
      due(fill(back, 0, 1, 2, 2).whatIs(0, 0, 0), 0);
      due(fill(back, 0, 0, 0).whatIs(0, 0, 0), 62);
    });
    says("(as many as it tells, those behind the ninth are not looked at", () -> {
      SiphonsBench x = bench(text);
      due(fill(x, 0, 1).whatIs(0, 0, 0), 7);
      due(fill(x, 0, 1, 1).whatIs(0, 0, 0), 0);
      due(fill(x, 0, 1, 2, 3, 4, 5, 6, 6, 6, 5).whatIs(0, 0, 0), 0);
      due(fill(x, 0, 1, 2, 3, 4, 5, 6, 6, 6, 6, 77).whatIs(0, 0, 0), 7);
      due(fill(x, 0, 1, 2, 3, 4, 5, 6, 6, 6, 6, LEAST, 0, 5).whatIs(0, 0, 1), 1023);
    });
    says("of none all is so", () -> {
      SiphonsBench x = bench(text);
      due(fill(x, 0).whatIs(0, 0, 0), 63);
      due(fill(x, 0).whatIs(0, 0, 1), 1023);
    });
    says("RUNS as it is, also for another KIND)", () -> {
      SiphonsBench x = bench(text + "k0=1,1;");
      due(fill(x, 0, 2, 4).whatIs(0, 0, 0), 0);
      x.passes(1);
      due(x.count(5), 1);
      due(fill(x, 0, 2, 4).whatIs(0, 0, 0), 8);
      due(fill(x, 0, 1, 2).whatIs(0, 0, 1), 1023);
      due(x.ofPipe(0, 0), 1);
    });
    says("KINDS (bits) by which, FIGURE as it is, all of it is so", () -> {
      due(fill(bench(text), 0, 6).whatIs(0, 0, 0), 16);
      due(fill(bench(text), 0, 0, 0).whatIs(0, 0, 0), 40);
      due(fill(bench(text + "k0=0,3;"), 0, 1, 2).whatIs(0, 0, 0), 1 + 2 + 4 + 32);
      due(fill(bench(text + "k0=0,4;"), 0, 2, 4).whatIs(0, 0, 0), 8);
    });
    says("FIGURES (bits 0 .. 9) by which, KIND as it is", () -> {
      due(fill(bench(text + "k0=5,1;"), 0, 1, 2).whatIs(0, 0, 1), 1 + 8 + 64 + 512);
      due(fill(bench(text + "k0=3,1;"), 0, 2, 4).whatIs(0, 0, 1), 1016);
      due(fill(bench(text + "k0=1,1;"), 0, 1, 2).whatIs(0, 0, 1), 63);
      due(fill(bench(text + "k0=1,1;"), 0, 0).whatIs(0, 0, 1), 1023 - 63);
    });
    rows();
  }

  private static void rows() {
    says("LISTS 0 .. 3 are rows of ints (20 at most)", () -> {
      SiphonsBench x = new SiphonsBench();
      for (int list = 0; list < 4; list++) {
        due(x.list(list, 20), 1);
        due(x.put(list, 19, 1), 1);
        due(x.put(list, 20, 1), -13);
      }
      due(x.list(4, 20), -1);
      due(x.list(-1, 20), -1);
      due(x.list(0, 21), -6);
    });
    says("missing at first", () -> {
      SiphonsBench x = bench("v1,0,1;v1,0,1;p0>1,0,0,1;");
      for (int list = 0; list < 4; list++) {
        due(x.judge(list), -11);
        due(x.whatIs(list, 0, 0), -11);
        due(x.put(list, 0, 0), -11);
        due(x.lays(list, 0), -11);
      }
    });
    says("RACKS 0 .. 2 are rows for PIPES (as they were when laid)", () -> {
      SiphonsBench x = bench("v1,0,1;v1,0,1;p0>1,0,0,1;k0=5,0;");
      for (int rack = 0; rack < 3; rack++) {
        due(x.rack(rack, 0, 9), 1);
        due(x.racks(rack, 8, 0), 1);
        due(x.racks(rack, 9, 0), -13);
      }
      due(x.rack(3, 0, 9), -1);
      due(x.rack(-1, 0, 9), -1);
      x.kind(0, 1, 0);
      due(x.racked(0, 8), 5);
      due(x.racked(2, 8), 5);
    });
    says("each made for a KIND and those under it; missing at first", () -> {
      SiphonsBench x = bench("v1,0,1;v1,0,1;p0>1,0,0,1;");
      for (int rack = 0; rack < 3; rack++) {
        due(x.racked(rack, 0), -11);
        due(x.racks(rack, 0, 0), -11);
        due(x.like(0, rack), -11);
      }
    });
  }

  private static void lots() {
    // The first DRAWS below ten: by the seed 0 3, 7, 6, 9, 9, 0; by -1 1, 0, 6, 7, 8, 9.
    says("LOTS with a seed z: n benches (1 .. 20), each from now", () -> {
      SiphonsBench x = bench("v1,0,9;t0=1;");
      due(x.lots(0, 0, 0), -4);
      due(x.lots(21, 0, 0), -6);
      due(x.lots(1, 0, 0), 24);
      due(x.lots(2, 0, 0), 24 + 28);
      due(x.lots(20, 0, 0), lostOf(0, 20));
      due(x.count(3) + x.of(0, 3) + x.count(2), 0);
    });
    says("WATER of each VESSEL is a DRAW below AREA times RIM and 1", () -> {
      // Two VESSELS by turns: 3 and 7, 6 and 9.
      SiphonsBench x = bench("v1,0,9;v3,0,3;t0=1;t1=1;");
      due(x.lots(1, 0, 0), 24 + 28);
      due(x.lots(2, 0, 0), 24 + 28 + 27 + 30);
      // A brim of one: DRAWS below two.
      due(bench("v1,0,1;t0=1;").lots(20, 7, 0), drawn(7, 20, 2) + 20 * 29);
    });
    says("then 30 STEPS: WATER that ran OVER, of all", () -> {
      due(bench("v1,0,30;t0=1;").lots(1, 0, 0), drawn(0, 1, 31));
      due(bench("v1,0,9;").lots(20, 0, 0), 0);
    });
    says("how many PIPES RUN then, of all", () -> {
      SiphonsBench x = bench("v1,10,9;v9,0,1;p0>1,10,0,1;k0=1,0;t0=1;");
      due(x.lots(1, 0, 1), 1);
      due(x.lots(2, 0, 1), 2);
      due(bench("v1,10,9;v9,0,1;p0>1,10,0,1;k0=2,0;t0=1;").lots(2, 0, 1), 0);
    });
    says("z becomes z times 1664525 and 1013904223 (an int)", () -> {
      due(bench("v1,0,9;t0=1;").lots(1, -1, 0), 22);
      due(bench("v1,0,9;t0=1;").lots(2, -1, 0), 22 + 21);
      due(bench("v1,0,9;t0=1;").lots(6, -1, 0), 22 + 21 + 27 + 28 + 29 + 30);
      due(bench("v1,0,9;t0=1;").lots(6, Integer.MAX_VALUE, 0), 22 + 21 + 27 + 28 + 29 + 30);
      due(bench("v1,0,9;t0=1;").lots(20, 123456789, 0), lostOf(123456789, 20));
    });
    says("(z without its sign's bit by 256, cut) modulo m", () -> {
      due(bench("v1,0,9;t0=1;").lots(3, 0, 0), 24 + 28 + 27);
      due(bench("v1,0,9;t0=1;").lots(6, 0, 0), 24 + 28 + 27 + 30 + 30 + 21);
      due(bench("v1,0,9;t0=1;").lots(6, LEAST, 0), 24 + 28 + 27 + 30 + 30 + 21);
    });
  }

  /** The sum of the first DRAWS below m, counted by longs alone. */
  private static int drawn(int seed, int n, int m) {
    long z = seed & 0xffffffffL;
    long sum = 0;
    for (int i = 0; i < n; i++) {
      z = (z * 1664525L + 1013904223L) & 0xffffffffL;
      sum += (z & 0x7fffffffL) / 256 % m;
    }
    return (int) sum;
  }

  /** What runs OVER of a VESSEL that holds nine, with TAP 1, by so many DRAWS. */
  private static int lostOf(int seed, int n) {
    return drawn(seed, n, 10) + 21 * n;
  }

  private static void refusals() {
    says("THE IMAGE: VESSELS, PIPES with all that is theirs, THE SUMP, STEP; ON from it these are as then",
        EdgeQuestionTests::imageOfAll);
    says("Fractions are told in least terms; 0 as 0 by 1", () -> {
      due(bench("v6,0,5;w0=4;").level(0, 0), 2);
      due(bench("v6,0,5;w0=4;").level(0, 1), 3);
      due(bench("v6,0,5;w0=30;").level(0, 1), 1);
      due(bench("v6,0,5;").level(0, 0), 0);
      due(bench("v6,0,5;").level(0, 1), 1);
    });
    says("(the call answers the number, the first that fits in the order in which it tells them", () -> {
      due(some().kind(9, 9, 10), -1);
      due(some().kind(0, 9, 10), -2);
      due(some().kind(0, 5, 10), -6);
      due(some().pipe(0, 9, 99, 99, 0), -1);
      due(some().pipe(0, 1, 99, 99, 0), -4);
      due(some().pipe(0, 1, 99, 99, 10), -6);
      due(some().pipe(0, 1, 99, 99, 9), -3);
    });
    says("nothing changes but how many there were)", () -> {
      refused(-1, x -> x.kind(9, 0, 0));
      refused(-2, x -> x.kind(0, 9, 0));
      refused(-3, x -> x.pipe(0, 1, 0, 0, 1));
      refused(-4, x -> x.kind(0, 0, -1));
      refused(-6, x -> x.kind(0, 0, 10));
    });
    says("-1 NOBODY: no such VESSEL, PIPE, LIST, RACK, one twice", () -> refused(-1,
        x -> x.over(3), x -> x.starts(2), x -> x.list(4, 1), x -> x.rack(3, 0, 1),
        x -> x.meets(1, 1), x -> x.pipe(1, 1, 5, 5, 1)));
    says("-2 OTHER: what, KIND", () -> refused(-2,
        x -> x.of(0, 5), x -> x.kind(0, 6, 0), x -> x.rack(0, 6, 1)));
    says("-3 STATE: it is not as it must be", () -> refused(SiphonsBench::new, -3, x -> x.on()));
    says("-4 BELOW: a number below the least", () -> refused(-4, x -> x.passes(0)));
    says("-6 ROOM: a number above the greatest, no room", () -> {
      refused(-6, x -> x.passes(100));
      refused(Edge::full, -6, x -> x.vessel(1, 0, 1));
    });
    says("Of longs 4000000000000000000 less them (-1 as 4000000000000000001)", () -> {
      due(some().level(3, 0), 4000000000000000001L);
      due(some().level(0, 2), 4000000000000000002L);
      due(some().leak(1, 1, 0), 4000000000000000004L);
      due(some().leak(21, 1, 0), 4000000000000000006L);
    });
    says("Not counted: of LISTS and RACKS -11 it is missing, -13 no such place, -14 a size below 0, "
        + "-16 it isn't made for such", () -> {
      refused(-11, x -> x.judge(0), x -> x.racked(0, 0));
      refused(-13, x -> x.put(1, 4, 0), x -> x.racked(1, 3));
      refused(-14, x -> x.list(0, -1), x -> x.rack(0, 0, -1));
      refused(-16, x -> x.racks(1, 0, 1));
    });
  }

  private static void imageOfAll() {
    String text = "v1,10,5;v9,0,9;p0>1,10,0,1;k0=1,0;t0=3;w0=5;s2;";
    SiphonsBench x = bench(text);
    SiphonsBench twin = bench(text);
    due(x.count(5), 1);
    due(x.count(3), 4);
    due(x.image(), 2);
    due(twin.image(), 2);
    x.water(0, 2);
    x.tap(0, 9);
    x.kind(0, 4, 4);
    x.rate(0, 9);
    x.vessel(2, 20, 2);
    x.pipe(2, 1, 20, 0, 2);
    x.passes(9);
    due(x.on(), 2);
    alike(x, twin);
  }

  public static void main(String[] args) {
    section("Terms II");
    inMind();
    best();
    floats();
    lists();
    lots();
    refusals();
    finish("EdgeQuestionTests");
  }
}
