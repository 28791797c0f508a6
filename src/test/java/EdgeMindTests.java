/** The edges that the promises 15 to 25 name, in their words: each sentence by a test of its own. */
public final class EdgeMindTests extends Edge {
  private static void then() {
    section("Promise 15");
    says("n STEPS on: WATER of VESSEL which (what 0)", () -> {
      SiphonsBench x = bench("v9,0,30;v9,0,9;t0=2;t1=9;w0=1;");
      due(x.then(0, 0, 0), 1);
      due(x.then(1, 0, 0), 3);
      due(x.then(99, 0, 0), 199);
      due(x.then(8, 0, 1), 72);
      due(x.then(99, 0, 1), 81);
    });
    says("whether PIPE which RUNS (1)", () -> {
      SiphonsBench x = bench("v1,10,9;v9,0,9;p0>1,10,0,1;p0>1,10,0,1;k0=1,0;w0=3;");
      due(x.then(0, 1, 0), 0);
      due(x.then(1, 1, 0), 1);
      due(x.then(1, 1, 1), 0);
      due(x.then(2, 1, 0), 0);
    });
    says("THE SUMP (2; which doesn't matter)", () -> {
      SiphonsBench x = bench("v1,0,1;t0=9;s1;");
      for (int which : new int[] {0, 1, -1, LEAST, MOST}) {
        due(x.then(0, 2, which), 8);
        due(x.then(1, 2, which), 17);
      }
      due(new SiphonsBench().then(99, 2, 7), 0);
      due(x.count(11), 0);
    });
    says("n STEPS on", () -> leaves(x -> x.then(99, 0, 0), x -> x.then(99, 1, 0), x -> x.then(99, 2, 0)));
    says("-4 (n)", () -> refused(-4, x -> x.then(-1, 0, 0), x -> x.then(LEAST, 2, 0)));
    says("-6 99", () -> refused(-6, x -> x.then(100, 0, 0), x -> x.then(MOST, 2, 0)));
    says("; -2;", () -> refused(-2, x -> x.then(0, 3, 0), x -> x.then(0, -1, 0),
        x -> x.then(0, MOST, 0), x -> x.then(0, LEAST, 0)));
    says("; -1.", () -> refused(-1, x -> x.then(0, 0, 3), x -> x.then(0, 0, -1),
        x -> x.then(0, 1, 2), x -> x.then(0, 1, -1), x -> x.then(0, 0, MOST), x -> x.then(0, 1, LEAST)));
    says("-4 (n); -6 99; -2; -1", () -> {
      refused(-4, x -> x.then(-1, 3, 9), x -> x.then(-1, 0, 9));
      refused(-6, x -> x.then(100, 3, 9), x -> x.then(100, 0, 9));
      refused(-2, x -> x.then(1, 3, 9));
    });
  }

  private static void over() {
    section("Promise 16");
    says("OVER;", () -> {
      SiphonsBench x = bench("v9,0,23;v1,0,1;v1,0,1;t0=1;w0=8;t1=1;w1=1;w2=1;");
      due(x.over(0), 200);
      due(x.over(1), 1);
      due(x.over(2), -9);
    });
    says("OVER; -9", () -> due(bench("v9,0,23;t0=1;w0=7;").over(0), -9));
    says("OVER;", () -> leaves(x -> x.over(0), x -> x.over(1)));
    says("-1", () -> refused(-1,
        x -> x.over(3), x -> x.over(-1), x -> x.over(MOST), x -> x.over(LEAST)));
  }

  private static void dry() {
    section("Promise 17");
    says("DRY;", () -> {
      SiphonsBench x = bench("v7,20,29;v9,0,9;v1,0,1;p0>1,20,0,1;w1=1;");
      x.water(0, 200);
      due(x.dry(0), 200);
      due(x.dry(1), -9);
      due(x.dry(2), 0);
    });
    says("DRY; -9", () -> {
      SiphonsBench x = bench("v7,20,29;v9,0,9;p0>1,20,0,1;");
      x.water(0, 201);
      due(x.dry(0), -9);
    });
    says("DRY;", () -> leaves(x -> x.dry(0), x -> x.dry(2)));
    says("-1", () -> refused(-1,
        x -> x.dry(3), x -> x.dry(-1), x -> x.dry(MOST), x -> x.dry(LEAST)));
  }

  private static void starts() {
    section("Promise 18");
    says("STARTS;", () -> {
      SiphonsBench x = bench("v9,0,23;v9,0,9;p0>1,1,0,1;p0>1,1,0,1;k0=3,0;k1=1,8;t0=1;w0=89;");
      due(x.starts(1), 1);
      due(x.starts(0), -9);
      x.kind(1, 4, 8);
      due(x.starts(1), -9);
    });
    says("STARTS; -9", () -> {
      SiphonsBench x = bench("v9,0,23;v9,0,9;p0>1,1,0,1;k0=3,0;t0=1;w0=6;");
      due(x.starts(0), -9);
      x.water(0, 7);
      due(x.starts(0), 200);
      due(bench("v1,0,9;v9,0,9;p0>1,1,0,1;t0=9;").starts(0), -9);
    });
    says("STARTS;", () -> leaves(x -> x.starts(0), x -> x.starts(1)));
    says("-1", () -> refused(-1,
        x -> x.starts(2), x -> x.starts(-1), x -> x.starts(MOST), x -> x.starts(LEAST)));
  }

  private static void turns() {
    section("Promise 19");
    says("TURNS", () -> {
      // 6, 4, 2, broken; 3, 4, 5, and 6 again: from the fourth STEP on each six.
      SiphonsBench x = bench("v1,10,9;v9,0,30;p0>1,12,0,2;k0=1,3;t0=1;w0=2;");
      due(x.turns(0, 0), 0);
      due(x.turns(0, 3), 0);
      due(x.turns(0, 4), 1);
      due(x.turns(0, 9), 1);
      due(x.turns(0, 10), 2);
      due(x.turns(0, 93), 15);
      due(x.turns(0, 94), 16);
      due(x.turns(0, 99), 16);
      due(bench("v1,10,9;v9,0,9;p0>1,12,0,2;t0=9;").turns(0, 99), 0);
    });
    says("TURNS", () -> leaves(x -> x.turns(0, 99), x -> x.turns(1, 0)));
    says("-1;", () -> refused(-1,
        x -> x.turns(2, 0), x -> x.turns(-1, 0), x -> x.turns(MOST, 0), x -> x.turns(LEAST, 0)));
    says("-4;", () -> refused(-4, x -> x.turns(0, -1), x -> x.turns(0, LEAST)));
    says("-6 99", () -> refused(-6, x -> x.turns(0, 100), x -> x.turns(0, MOST)));
    says("-1; -4; -6 99", () -> refused(-1, x -> x.turns(2, -1), x -> x.turns(2, 100)));
  }

  private static void round() {
    section("Promise 20");
    says("ROUND;", () -> {
      SiphonsBench x = bench("v9,0,22;t0=1;w0=1;");
      due(x.round(0), 200);
      due(x.round(1), 197);
      due(x.round(2), 3);
    });
    says("ROUND; -9", () -> {
      SiphonsBench x = bench("v9,0,22;t0=1;");
      for (int what = 0; what <= 2; what++) {
        due(x.round(what), -9);
      }
    });
    says("ROUND;", () -> leaves(x -> x.round(0), x -> x.round(1), x -> x.round(2)));
    says("-2", () -> refused(-2,
        x -> x.round(3), x -> x.round(-1), x -> x.round(MOST), x -> x.round(LEAST)));
    says("ROUND; -9. -2", () -> refused(() -> bench("v9,0,22;t0=1;"), -2, x -> x.round(3)));
  }

  private static void least() {
    section("Promise 21");
    says("LEAST;", () -> {
      SiphonsBench x = bench("v9,0,30;v9,0,9;p0>1,0,0,1;k0=1,9;t0=1;");
      due(x.least(0, 0, 1), 89);
      due(x.least(0, 0, 60), 30);
      due(x.least(1, 0, 60), -9);
    });
    says("LEAST; -9", () -> {
      SiphonsBench x = bench("v9,0,30;v9,0,9;p0>1,0,0,1;p0>1,0,0,1;k0=1,9;t0=1;");
      due(x.least(0, 1, 60), -9);
      // It starts, and BREAKS in the same STEP: behind that STEP it doesn't RUN.
      due(bench("v1,0,10;v9,0,30;p0>1,2,0,9;k0=1,3;").least(0, 0, 60), -9);
    });
    says("LEAST;", () -> leaves(x -> x.least(0, 0, 60), x -> x.least(1, 1, 1)));
    says("-1 either", () -> refused(-1, x -> x.least(3, 0, 1), x -> x.least(-1, 0, 1),
        x -> x.least(0, 2, 1), x -> x.least(0, -1, 1), x -> x.least(MOST, 0, 1),
        x -> x.least(0, LEAST, 1)));
    says("-4 (below 1)", () -> refused(-4,
        x -> x.least(0, 0, 0), x -> x.least(0, 0, -1), x -> x.least(0, 0, LEAST)));
    says("-6 60", () -> refused(-6, x -> x.least(0, 0, 61), x -> x.least(0, 0, MOST)));
    says("-1 either; -4 (below 1); -6 60", () -> refused(-1, x -> x.least(3, 0, 0),
        x -> x.least(3, 0, 61), x -> x.least(0, 2, 0), x -> x.least(0, 2, 61)));
    // The kind of PIPE doesn't matter: what can't RUN is looked at all the same.
    says("-4 (below 1); -6 60", () -> {
      refused(-4, x -> x.least(0, 1, 0));
      refused(-6, x -> x.least(0, 1, 61));
    });
  }

  private static void tapBest() {
    section("Promise 22");
    says("TAP BEST (what 0), that WATER (1)", () -> {
      SiphonsBench x = bench("v1,0,10;v1,0,30;t0=7;");
      due(x.tapBest(0, 0, 5, 0), 2);
      due(x.tapBest(0, 0, 5, 1), 10);
      due(x.tapBest(1, 1, 3, 0), 9);
      due(x.tapBest(1, 1, 3, 1), 27);
      due(x.tapBest(1, 0, 1, 0), 0);
      due(x.tapBest(1, 0, 1, 1), 7);
      due(x.tapBest(0, 0, 0, 0), 0);
      due(x.tapBest(0, 0, 99, 1), 10);
    });
    says("TAP BEST", () -> leaves(x -> x.tapBest(0, 1, 99, 0), x -> x.tapBest(0, 1, 99, 1)));
    says("-1 either", () -> refused(-1, x -> x.tapBest(3, 0, 1, 0), x -> x.tapBest(-1, 0, 1, 0),
        x -> x.tapBest(0, 3, 1, 0), x -> x.tapBest(0, -1, 1, 0), x -> x.tapBest(MOST, 0, 1, 0),
        x -> x.tapBest(0, LEAST, 1, 0)));
    says("-4;", () -> refused(-4, x -> x.tapBest(0, 1, -1, 0), x -> x.tapBest(0, 1, LEAST, 1)));
    says("-6 99", () -> refused(-6, x -> x.tapBest(0, 1, 100, 0), x -> x.tapBest(0, 1, MOST, 1)));
    says("; -2", () -> refused(-2, x -> x.tapBest(0, 1, 1, 2), x -> x.tapBest(0, 1, 1, -1),
        x -> x.tapBest(0, 1, 1, MOST), x -> x.tapBest(0, 1, 1, LEAST)));
    says("-1 either; -4; -6 99; -2", () -> {
      refused(-1, x -> x.tapBest(3, 0, -1, 0), x -> x.tapBest(0, 3, 100, 0),
          x -> x.tapBest(3, 0, 1, 2), x -> x.tapBest(0, 3, 1, 2));
      refused(-4, x -> x.tapBest(0, 1, -1, 2));
      refused(-6, x -> x.tapBest(0, 1, 100, 2));
    });
  }

  private static void matters() {
    section("Promise 23");
    says("MATTERS;", () -> {
      SiphonsBench x = bench("v1,20,5;v9,0,30;p0>1,20,0,1;p0>1,20,0,2;w0=5;t0=3;");
      due(x.matters(0), 0);
      due(x.matters(1), 1);
      due(x.matters(99), 1);
    });
    says("MATTERS; -9", () -> {
      due(new SiphonsBench().matters(0), -9);
      due(bench("v1,0,1;v1,0,1;t0=9;").matters(99), -9);
    });
    says("MATTERS;", () -> leaves(x -> x.matters(99), x -> x.matters(0)));
    says("-4;", () -> refused(-4, x -> x.matters(-1), x -> x.matters(LEAST)));
    says("-6 99", () -> refused(-6, x -> x.matters(100), x -> x.matters(MOST)));
    // -9 is no refusal: of nothing, too, they come first.
    says("-4; -6 99", () -> {
      refused(SiphonsBench::new, -4, x -> x.matters(-1));
      refused(SiphonsBench::new, -6, x -> x.matters(100));
    });
  }

  private static void order() {
    section("Promise 24");
    says("ORDER.", () -> {
      SiphonsBench x = bench("v1,1,9;v1,0,9;v2,2,9;v1,0,9;v1,9,9;w1=1;w3=9;");
      // 1, 1, 2, 9, 9.
      int[] order = {3, 4, 2, 0, 1};
      for (int i = 0; i < 5; i++) {
        due(x.order(i), order[i]);
      }
    });
    says("-1 (there are not so many, too)", () -> {
      refused(-1, x -> x.order(3), x -> x.order(4), x -> x.order(MOST));
      refused(SiphonsBench::new, -1, x -> x.order(0));
      refused(Edge::full, -1, x -> x.order(5));
    });
    says("-1 (", () -> refused(-1, x -> x.order(-1), x -> x.order(LEAST)));
  }

  private static void meets() {
    section("Promise 25");
    says("MEETS;", () -> {
      SiphonsBench x = bench("v2,3,9;v4,3,9;v9,0,30;v9,0,30;t2=1;");
      due(x.meets(0, 1), 0);
      x.water(3, 200);
      due(x.meets(2, 3), 200);
      due(x.meets(0, 2), 27);
    });
    says("MEETS; -9", () -> {
      SiphonsBench x = bench("v2,3,9;v9,0,30;v9,0,30;t1=1;");
      x.water(2, 201);
      due(x.meets(1, 2), -9);
      due(x.meets(0, 2), -9);
    });
    says("MEETS;", () -> leaves(x -> x.meets(0, 1), x -> x.meets(2, 0)));
    says("-1 either", () -> refused(-1, x -> x.meets(3, 0), x -> x.meets(-1, 0),
        x -> x.meets(0, 3), x -> x.meets(0, -1), x -> x.meets(MOST, 0), x -> x.meets(0, LEAST)));
    says("(one twice, too)", () -> refused(-1,
        x -> x.meets(0, 0), x -> x.meets(1, 1), x -> x.meets(2, 2)));
  }

  public static void main(String[] args) {
    then();
    over();
    dry();
    starts();
    turns();
    round();
    least();
    tapBest();
    matters();
    order();
    meets();
    finish("EdgeMindTests");
  }
}
