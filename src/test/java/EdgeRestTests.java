/** The edges that the promises 26 to 42 name, in their words: each sentence by a test of its own. */
public final class EdgeRestTests extends Edge {
  private static void shown() {
    section("Promise 26");
    says("SHOWN: bits", () -> {
      SiphonsBench x = bench("v4,6,10;v3,0,9;v9,20,30;w0=30;");
      due(x.shown(0), 0x41580000L);
      due(x.shown(1), 0);
      for (int water = 0; water <= 27; water++) {
        x.water(1, water);
        due(x.shown(1), Float.floatToIntBits((float) water / 3.0f));
      }
      for (int water = 0; water <= 270; water += 9) {
        x.water(2, water);
        due(x.shown(2), Float.floatToIntBits((float) water / 9.0f + 20.0f));
      }
      leaves(y -> y.shown(0));
    });
    says("Refused as told: -1", () -> refusedLong(-1,
        x -> x.shown(3), x -> x.shown(-1), x -> x.shown(MOST), x -> x.shown(LEAST)));
  }

  private static void work() {
    section("Promise 27");
    says("WORK: bits (what 0), an int (1)", () -> {
      SiphonsBench x = bench("v3,2,9;v7,1,9;v1,0,9;w0=7;w1=10;w2=9;");
      double sum = 0.0 + 7.0 * (2.0 + 7.0 / 3.0 / 2.0);
      sum += 10.0 * (1.0 + 10.0 / 7.0 / 2.0);
      sum += 9.0 * (0.0 + 9.0 / 1.0 / 2.0);
      due(x.work(0), Double.doubleToLongBits(sum));
      due(x.work(1), 79);
      due(new SiphonsBench().work(0), 0);
      due(new SiphonsBench().work(1), 0);
      leaves(y -> y.work(0), y -> y.work(1));
    });
    says("bits (what 0), an int (1)", () -> {
      SiphonsBench x = bench("v9,20,30;v9,20,30;v9,20,30;v9,20,30;v9,20,30;");
      for (int v = 0; v < 5; v++) {
        x.water(v, 270);
      }
      due(x.work(1), 5 * 270 * 35);
      due(x.work(0), Double.doubleToLongBits(47250.0));
      due(bench("v9,0,1;w0=1;").work(0), Double.doubleToLongBits(1.0 / 9.0 / 2.0));
      due(bench("v9,0,1;w0=1;").work(1), 0);
    });
    says("Refused as told: -2", () -> refusedLong(-2,
        x -> x.work(2), x -> x.work(-1), x -> x.work(MOST), x -> x.work(LEAST)));
  }

  private static void leak() {
    section("Promise 28");
    says("LEAK.", () -> {
      SiphonsBench x = bench("v1,0,5;v1,0,30;p0>1,0,0,1;p0>1,0,0,1;w0=5;t0=2;");
      due(x.leak(4, 1, 0), 7);
      due(x.leak(4, 1, 1), 16);
      due(x.leak(2, 1, 0), 3);
      due(x.leak(20, 1, 1), 400);
      leaves(y -> y.leak(2, 30, 0), y -> y.leak(20, 1, 1));
    });
    says("LEAK.", () -> {
      due(bench("v1,0,5;t0=9;").leak(20, 1, 0), 1);
      due(bench("v1,0,5;t0=9;").leak(20, 1, 1), 1);
      due(bench("v1,0,5;").leak(20, 30, 0), 0);
      due(bench("v1,0,5;").leak(20, 30, 1), 1);
    });
    says("-4 (t below 2;", () -> refusedLong(-4,
        x -> x.leak(1, 1, 0), x -> x.leak(0, 1, 0), x -> x.leak(-1, 1, 1), x -> x.leak(LEAST, 1, 0)));
    says("n below 1)", () -> refusedLong(-4,
        x -> x.leak(2, 0, 0), x -> x.leak(2, -1, 1), x -> x.leak(2, LEAST, 0)));
    says("-6 (20;", () -> refusedLong(-6, x -> x.leak(21, 1, 0), x -> x.leak(MOST, 1, 0)));
    says("30)", () -> refusedLong(-6, x -> x.leak(2, 31, 0), x -> x.leak(2, MOST, 0)));
    says("; -2", () -> refusedLong(-2, x -> x.leak(2, 1, 2), x -> x.leak(2, 1, -1),
        x -> x.leak(20, 30, MOST), x -> x.leak(20, 30, LEAST)));
    says("-4 (t below 2; n below 1); -6 (20; 30); -2", () -> {
      refusedLong(-4, x -> x.leak(1, 31, 2), x -> x.leak(21, 0, 2), x -> x.leak(1, 1, 2),
          x -> x.leak(2, 0, 2));
      refusedLong(-6, x -> x.leak(21, 1, 2), x -> x.leak(2, 31, 2));
    });
  }

  private static void all() {
    section("Promise 29");
    says("ALL.", () -> {
      due(new SiphonsBench().all(), 0);
      SiphonsBench x = bench("v1,0,5;v2,3,9;w0=4;w1=7;t0=3;");
      due(x.all(), 11);
      x.passes(2);
      due(x.count(3), 5);
      due(x.all(), 17);
      leaves(y -> y.all());
    });
  }

  private static void judge() {
    section("Promise 30");
    says("JUDGED by a LIST;", () -> {
      SiphonsBench x = bench("v1,0,9;v1,0,9;t0=2;t1=1;");
      due(fill(x, 3, 0, 2, 4, 7).judge(3), 3);
      due(fill(x, 0, 1, 2, 4, 7).judge(0), 0);
      leaves(y -> y.judge(1), y -> y.judge(2));
    });
    says("JUDGED by a LIST; -9", () -> {
      SiphonsBench x = bench("v1,0,9;t0=2;");
      due(fill(x, 1, 0, 2, 4, 6, 8, 9, 9).judge(1), -9);
      due(fill(x, 1).judge(1), -9);
      due(fill(x, 1, LEAST).judge(1), -9);
    });
    says("-1 (", () -> refused(-1,
        x -> x.judge(4), x -> x.judge(-1), x -> x.judge(MOST), x -> x.judge(LEAST)));
    says("-1 (no VESSEL 0, too)", () -> refused(() -> fill(new SiphonsBench(), 0, 0), -1,
        x -> x.judge(0), x -> x.judge(4)));
    says("-11", () -> refused(-11, x -> x.judge(0), x -> x.judge(3)));
    says("-1 (no VESSEL 0, too); -11", () -> refused(SiphonsBench::new, -1, x -> x.judge(0)));
  }

  /** Six stand above the first MOUTH; CREST of a SIPHON is 12, of a CUP 18. */
  private static final String BENCH = "v1,10,9;v9,0,9;p0>1,10,0,1;k0=0,1;w0=6;";

  private static void whatIs() {
    section("Promise 31");
    says("WHAT KIND by a LIST: KINDS (what 0)", () -> {
      due(fill(bench(BENCH), 3, 1, 2, 3).whatIs(3, 0, 0), 7);
      due(fill(bench(BENCH), 0, 6).whatIs(0, 0, 0), 16);
      due(fill(bench(BENCH), 0, 5).whatIs(0, 0, 0), 0);
    });
    says("FIGURES (1), bits", () -> {
      due(fill(bench(BENCH + "k0=1,9;"), 0, 1).whatIs(0, 0, 1), 63);
      due(fill(bench(BENCH + "k0=1,0;"), 0, 0).whatIs(0, 0, 1), 1023 - 63);
      due(fill(bench(BENCH), 0, 5).whatIs(0, 0, 1), 0);
    });
    says("WHAT KIND by a LIST", () -> leaves(
        x -> x.whatIs(1, 0, 0), x -> x.whatIs(1, 1, 1), x -> x.whatIs(2, 0, 0)));
    says("-1 either", () -> refused(-1, x -> x.whatIs(4, 0, 0), x -> x.whatIs(-1, 0, 0),
        x -> x.whatIs(1, 2, 0), x -> x.whatIs(1, -1, 0), x -> x.whatIs(MOST, 0, 0),
        x -> x.whatIs(1, LEAST, 0)));
    says("; -2;", () -> refused(-2, x -> x.whatIs(1, 0, 2), x -> x.whatIs(1, 0, -1),
        x -> x.whatIs(1, 0, MOST), x -> x.whatIs(1, 0, LEAST)));
    says("-11", () -> refused(-11, x -> x.whatIs(0, 0, 0), x -> x.whatIs(3, 1, 1)));
    says("-1 either; -2; -11", () -> {
      refused(-1, x -> x.whatIs(4, 0, 2), x -> x.whatIs(1, 2, 2), x -> x.whatIs(0, 2, 0));
      refused(-2, x -> x.whatIs(0, 0, 2));
    });
  }

  private static void lots() {
    section("Promise 32");
    says("LOTS: WATER (what 0), PIPES (1)", () -> {
      // The first DRAWS of the seed 0 below ten: 3, 7, 6, 9.
      SiphonsBench x = bench("v1,0,9;t0=1;");
      due(x.lots(1, 0, 0), 24);
      due(x.lots(4, 0, 0), 24 + 28 + 27 + 30);
      due(x.lots(20, 0, 1), 0);
      SiphonsBench y = bench("v1,10,9;v9,0,1;p0>1,10,0,1;k0=1,0;t0=1;");
      due(y.lots(2, 0, 1), 2);
      leaves(z -> z.lots(20, LEAST, 0), z -> z.lots(1, MOST, 1));
    });
    says("-4 (below 1)", () -> refused(-4,
        x -> x.lots(0, 0, 0), x -> x.lots(-1, 0, 0), x -> x.lots(LEAST, 0, 1)));
    says("-6 20", () -> refused(-6, x -> x.lots(21, 0, 0), x -> x.lots(MOST, 0, 1)));
    says("; -2", () -> refused(-2, x -> x.lots(1, 0, 2), x -> x.lots(20, 0, -1),
        x -> x.lots(1, 0, MOST), x -> x.lots(1, 0, LEAST)));
    says("-4 (below 1); -6 20; -2", () -> {
      refused(-4, x -> x.lots(0, 0, 2));
      refused(-6, x -> x.lots(21, 0, 2));
    });
    says("LOTS: WATER", () -> {
      // Any seed will do.
      for (int z : new int[] {0, 1, -1, LEAST, MOST}) {
        due(bench("v1,0,9;").lots(20, z, 0), 0);
      }
    });
  }

  private static void list() {
    section("Promise 33");
    says("A LIST becomes a row of n ints, all 0: 1", () -> {
      SiphonsBench x = bench("v1,0,9;");
      due(fill(x, 0, 1, 2, 3).judge(0), 0);
      due(x.list(0, 20), 1);
      due(x.judge(0), -9);
      due(x.put(0, 19, 1), 1);
      due(x.judge(0), 19);
      due(x.list(0, 2), 1);
      due(x.put(0, 1, 1), 1);
      due(x.put(0, 2, 1), -13);
      due(x.list(3, 0), 1);
      due(x.put(3, 0, 1), -13);
    });
    says("-1;", () -> refused(-1,
        x -> x.list(4, 1), x -> x.list(-1, 1), x -> x.list(MOST, 1), x -> x.list(LEAST, 1)));
    says("-6 20", () -> refused(-6, x -> x.list(1, 21), x -> x.list(0, 21), x -> x.list(1, MOST)));
    says("-14", () -> refused(-14, x -> x.list(1, -1), x -> x.list(0, -1), x -> x.list(1, LEAST)));
    says("-1; -6 20; -14", () -> refused(-1, x -> x.list(4, 21), x -> x.list(4, -1)));
    says("-6 20; -14", () -> {
      SiphonsBench x = fill(bench("v1,0,9;w0=5;"), 0, 5, 5, 5);
      due(x.list(0, 21), -6);
      due(x.list(0, -1), -14);
      due(x.judge(0), -9);
      due(x.put(0, 2, 6), 1);
      due(x.judge(0), 2);
      due(x.put(0, 3, 6), -13);
    });
  }

  private static void put() {
    section("Promise 34");
    says("Place i of a LIST becomes v: 1", () -> {
      SiphonsBench x = bench("v1,0,9;w0=7;");
      x.list(1, 20);
      for (int i = 0; i < 20; i++) {
        due(x.put(1, i, 7), 1);
        due(x.judge(1), i < 19 ? i + 1 : -9);
      }
      due(x.put(1, 0, MOST), 1);
      due(x.judge(1), 0);
    });
    says("-1;", () -> refused(-1,
        x -> x.put(4, 0, 0), x -> x.put(-1, 0, 0), x -> x.put(MOST, 0, 0), x -> x.put(LEAST, 0, 0)));
    says("-11;", () -> refused(-11, x -> x.put(0, 0, 0), x -> x.put(3, 0, 0)));
    says("-13", () -> refused(-13, x -> x.put(1, 4, 0), x -> x.put(1, -1, 0),
        x -> x.put(2, 0, 0), x -> x.put(1, MOST, 0), x -> x.put(1, LEAST, 0)));
    says("-1; -11; -13", () -> {
      refused(-1, x -> x.put(4, -1, 0));
      refused(-11, x -> x.put(0, -1, 0), x -> x.put(0, 20, 0));
    });
  }

  /** What a LIST holds is seen by judge alone, of VESSEL 0 whose WATER stays. */
  private static void holds(SiphonsBench x, int list, int... values) {
    for (int i = 0; i < values.length; i++) {
      x.water(0, values[i]);
      due(x.judge(list) == i ? 1 : 0, 0);
      x.put(list, i, LEAST);
    }
    due(x.put(list, values.length, 0), -13);
  }

  private static SiphonsBench three() {
    return bench("v1,0,9;v1,0,9;v1,0,9;w0=7;w1=5;w2=3;");
  }

  private static void lays() {
    section("Promise 35");
    says("WATER of VESSELS, by numbers, is laid into a LIST from place i on: how many", () -> {
      SiphonsBench x = fill(three(), 0, 1, 1, 1, 1, 1);
      due(x.lays(0, 1), 3);
      holds(x, 0, 1, 7, 5, 3, 1);
      SiphonsBench first = fill(three(), 0, 1, 1, 1);
      due(first.lays(0, 0), 3);
      holds(first, 0, 7, 5, 3);
      SiphonsBench last = fill(three(), 0, 1, 1, 1, 1);
      due(last.lays(0, 1), 3);
      holds(last, 0, 1, 7, 5, 3);
    });
    says("how many", () -> {
      SiphonsBench x = new SiphonsBench();
      x.list(0, 0);
      due(x.lays(0, 0), 0);
      due(x.lays(0, 7), 0);
      due(x.lays(0, -1), 0);
      SiphonsBench full = full();
      full.list(0, 20);
      due(full.lays(0, 15), 5);
    });
    says("WATER of VESSELS", () -> {
      SiphonsBench x = fill(three(), 0, 1, 1, 1);
      SiphonsBench twin = fill(three(), 0, 7, 5, 3);
      due(x.lays(0, 0), 3);
      alike(x, twin);
    });
    says("-1;", () -> refused(-1,
        x -> x.lays(4, 0), x -> x.lays(-1, 0), x -> x.lays(MOST, 0), x -> x.lays(LEAST, 0)));
    says("-11;", () -> refused(-11, x -> x.lays(0, 0), x -> x.lays(3, 0)));
    says("-13:", () -> refused(-13, x -> x.lays(1, 4), x -> x.lays(1, -1), x -> x.lays(1, MOST),
        x -> x.lays(1, LEAST), x -> x.lays(2, 0), x -> x.lays(1, -2)));
    says("-13: not all had a place", () -> {
      SiphonsBench x = full();
      x.list(0, 20);
      due(x.lays(0, 16), -13);
      due(x.lays(0, 19), -13);
      x.list(0, 4);
      due(x.lays(0, 0), -13);
    });
    says("(those ahead of the first that had none are laid)", () -> {
      SiphonsBench x = fill(three(), 0, 1, 1, 1, 1);
      due(x.lays(0, 2), -13);
      holds(x, 0, 1, 1, 7, 5);
      SiphonsBench one = fill(three(), 0, 1, 1, 1, 1);
      due(one.lays(0, 3), -13);
      holds(one, 0, 1, 1, 1, 7);
      SiphonsBench none = fill(three(), 0, 1, 1, 1, 1);
      due(none.lays(0, 4), -13);
      due(none.lays(0, -1), -13);
      due(none.lays(0, MOST), -13);
      due(none.lays(0, LEAST), -13);
      holds(none, 0, 1, 1, 1, 1);
    });
    says("-1; -11; -13", () -> {
      refused(-1, x -> x.lays(4, -1));
      refused(-11, x -> x.lays(0, -1), x -> x.lays(0, 20));
    });
  }

  private static void rack() {
    section("Promise 36");
    says("A RACK becomes a row of n (all empty) made for a KIND: 1", () -> {
      SiphonsBench x = bench("v1,0,9;v1,0,9;p0>1,0,0,1;");
      due(x.rack(0, 0, 9), 1);
      for (int i = 0; i < 9; i++) {
        due(x.racked(0, i), -9);
        due(x.racks(0, i, 0), 1);
      }
      due(x.racked(0, 9), -13);
      due(x.rack(0, 0, 8), 1);
      due(x.racked(0, 7), -9);
      due(x.racked(0, 8), -13);
      due(x.rack(0, 1, 1), 1);
      due(x.racks(0, 0, 0), -16);
      due(x.rack(2, 5, 0), 1);
      due(x.racked(2, 0), -13);
    });
    says("-1;", () -> refused(-1, x -> x.rack(3, 0, 1), x -> x.rack(-1, 0, 1),
        x -> x.rack(MOST, 0, 1), x -> x.rack(LEAST, 0, 1)));
    says("-2;", () -> refused(-2, x -> x.rack(1, 6, 1), x -> x.rack(1, -1, 1),
        x -> x.rack(0, MOST, 1), x -> x.rack(0, LEAST, 1)));
    says("-6 9", () -> refused(-6,
        x -> x.rack(1, 1, 10), x -> x.rack(0, 5, 10), x -> x.rack(1, 1, MOST)));
    says("-14", () -> refused(-14,
        x -> x.rack(1, 1, -1), x -> x.rack(0, 5, -1), x -> x.rack(1, 1, LEAST)));
    says("-1; -2; -6 9; -14", () -> {
      refused(-1, x -> x.rack(3, 6, 1), x -> x.rack(3, 0, 10), x -> x.rack(3, 0, -1));
      refused(-2, x -> x.rack(1, 6, 10), x -> x.rack(1, 6, -1));
    });
    says("-2; -6 9; -14", () -> {
      // Refused, it is made for a SIPHON still.
      SiphonsBench x = some();
      due(x.rack(1, 2, 10), -6);
      due(x.rack(1, 2, -1), -14);
      due(x.racks(1, 0, 0), 1);
      due(x.racks(1, 0, 1), -16);
    });
  }

  private static void racks() {
    section("Promise 37");
    says("A PIPE (-1: nothing) is laid into place i of a RACK: 1", () -> {
      SiphonsBench x = some();
      due(x.racked(1, 2), 1);
      due(x.racks(1, 0, 0), 1);
      due(x.racked(1, 0), 1);
      due(x.racked(1, 1), -9);
      due(x.racks(1, 2, -1), 1);
      due(x.racked(1, 2), -9);
      due(x.racks(1, 2, -1), 1);
      due(x.racks(1, 2, 0), 1);
      due(x.racked(1, 2), 1);
    });
    says("-1 (either)", () -> refused(-1, x -> x.racks(3, 0, 0), x -> x.racks(-1, 0, 0),
        x -> x.racks(1, 0, 2), x -> x.racks(1, 0, -2), x -> x.racks(MOST, 0, 0),
        x -> x.racks(1, 0, LEAST), x -> x.racks(1, 0, MOST), x -> x.racks(3, 0, -1)));
    says("-11;", () -> refused(-11,
        x -> x.racks(0, 0, 0), x -> x.racks(2, 0, 0), x -> x.racks(0, 0, -1)));
    says("-13;", () -> refused(-13, x -> x.racks(1, 3, 0), x -> x.racks(1, -1, 0),
        x -> x.racks(1, MOST, 0), x -> x.racks(1, LEAST, 0), x -> x.racks(1, 3, -1)));
    says("-16", () -> refused(-16, x -> x.racks(1, 0, 1), x -> x.racks(1, 2, 1)));
    says("-1 (either); -11; -13; -16", () -> {
      refused(-1, x -> x.racks(3, 9, 2), x -> x.racks(0, 0, 2), x -> x.racks(1, 9, 2));
      refused(-11, x -> x.racks(0, 9, 0));
      refused(-13, x -> x.racks(1, 3, 1), x -> x.racks(1, -1, 1));
    });
  }

  private static void racked() {
    section("Promise 38");
    says("KIND of what lies in place i of a RACK", () -> {
      SiphonsBench x = bench("v1,0,9;v1,0,9;p0>1,0,0,1;");
      x.rack(2, 0, 9);
      for (int kind = 0; kind <= 5; kind++) {
        x.kind(0, kind, 9);
        x.racks(2, kind, 0);
      }
      for (int i = 0; i < 9; i++) {
        due(x.racked(2, i), i <= 5 ? i : -9);
      }
      leaves(y -> y.racked(1, 2));
    });
    says("-9: nothing", () -> {
      SiphonsBench x = some();
      due(x.racked(1, 0), -9);
      due(x.racks(1, 2, -1), 1);
      due(x.racked(1, 2), -9);
      due(x.count(11), 0);
    });
    says("-1;", () -> refused(-1,
        x -> x.racked(3, 0), x -> x.racked(-1, 0), x -> x.racked(MOST, 0), x -> x.racked(LEAST, 0)));
    says("-11;", () -> refused(-11, x -> x.racked(0, 0), x -> x.racked(2, 0)));
    says("-13", () -> refused(-13, x -> x.racked(1, 3), x -> x.racked(1, -1),
        x -> x.racked(1, MOST), x -> x.racked(1, LEAST)));
    says("-1; -11; -13", () -> {
      refused(-1, x -> x.racked(3, -1));
      refused(-11, x -> x.racked(0, -1), x -> x.racked(0, 9));
    });
  }

  private static void like() {
    section("Promise 39");
    says("A RACK becomes a row like another one, as that is now: its size", () -> {
      SiphonsBench x = some();
      due(x.like(0, 1), 3);
      due(x.racked(0, 2), 1);
      due(x.racked(0, 0), -9);
      due(x.racked(0, 3), -13);
      due(x.racks(0, 0, 1), -16);
      due(x.racks(0, 0, 0), 1);
      due(x.racked(1, 0), -9);
      due(x.racks(1, 1, 0), 1);
      due(x.racked(0, 1), -9);
    });
    says("its size", () -> {
      SiphonsBench x = some();
      x.rack(2, 5, 0);
      due(x.like(1, 2), 0);
      due(x.racked(1, 0), -13);
      x.rack(2, 5, 9);
      due(x.like(1, 2), 9);
      due(x.racked(1, 8), -9);
      due(x.racks(1, 8, 0), -16);
      due(x.racks(1, 8, 1), 1);
    });
    says("like another one, as that is now", () -> {
      SiphonsBench x = some();
      due(x.like(1, 1), 3);
      alike(x, some());
    });
    says("-1 either", () -> refused(-1, x -> x.like(3, 1), x -> x.like(-1, 1),
        x -> x.like(1, 3), x -> x.like(1, -1), x -> x.like(MOST, 1), x -> x.like(1, LEAST)));
    says("-11 the other", () -> {
      refused(-11, x -> x.like(1, 0), x -> x.like(1, 2), x -> x.like(0, 2), x -> x.like(0, 0));
      // The one may be missing.
      due(some().like(0, 1), 3);
    });
    says("-1 either; -11 the other", () -> refused(-1, x -> x.like(3, 0)));
  }

  private static void image() {
    section("Promise 40");
    says("THE IMAGE is taken: STEP", () -> {
      SiphonsBench x = bench("v1,0,5;t0=2;s4;");
      due(x.image(), 4);
      due(x.passes(3), 7);
      due(x.image(), 7);
      due(x.passes(1), 8);
      due(x.on(), 7);
      due(new SiphonsBench().image(), 0);
    });
    says("THE IMAGE is taken", () -> {
      // Nothing changes by it, and a refused call takes none.
      SiphonsBench x = bench("v1,0,5;t0=2;s4;");
      due(x.passes(0), -4);
      due(x.on(), -3);
      due(x.image(), 4);
      due(x.of(0, 3), 5);
      due(x.count(3), 3);
      due(x.count(2), 4);
    });
  }

  private static void on() {
    section("Promise 41");
    says("ON from it: STEP", () -> {
      SiphonsBench x = bench("v1,0,5;t0=2;s4;");
      x.image();
      x.passes(9);
      due(x.on(), 4);
      due(x.of(0, 3), 5);
      due(x.count(3), 3);
      x.passes(9);
      due(x.on(), 4);
      due(x.count(2), 4);
    });
    says("ON from it", () -> {
      // Neither letters, nor LISTS, nor RACKS, nor how many REFUSALS there were are of it.
      SiphonsBench x = bench("v1,0,9;v1,0,9;p0>1,0,0,1;");
      x.list(0, 1);
      x.rack(0, 0, 1);
      x.image();
      x.letter('s');
      x.put(0, 0, 5);
      x.racks(0, 0, 0);
      x.passes(0);
      due(x.on(), 0);
      due(x.count(4), 1);
      due(x.judge(0), 0);
      due(x.racked(0, 0), 0);
      due(x.count(14), 1);
    });
    says("ON from it", () -> {
      // From an image of nothing on there is nothing.
      SiphonsBench x = new SiphonsBench();
      x.image();
      tell(x, "v1,0,9;v1,0,9;p0>1,0,0,1;k0=3,3;t0=9;w0=9;s9;");
      due(x.on(), 0);
      due(x.count(0) + x.count(1) + x.count(2) + x.count(3) + x.count(5), 0);
      due(x.all(), 0);
      due(x.vessel(2, 3, 4), 0);
      due(x.of(0, 3) + x.of(0, 4), 0);
      due(x.vessel(2, 3, 4), 1);
      due(x.pipe(0, 1, 3, 3, 1), 0);
      due(x.ofPipe(0, 0) + x.ofPipe(0, 1) + x.ofPipe(0, 7), 0);
    });
    says("-3 there is none", () -> refused(
        () -> bench("v1,10,9;v9,0,9;p0>1,10,0,1;k0=1,0;t0=9;w0=9;s1;"), -3, x -> x.on()));
  }

  private static void count() {
    section("Promise 42");
    says("0 VESSELS, 1 PIPES, 2 STEP, 3 THE SUMP, 4 letters, 5 PIPES (bits) that RUN", () -> {
      SiphonsBench x = bench("v1,10,5;v9,0,9;v1,0,1;p0>1,10,0,1;p0>1,10,0,1;k1=1,0;t0=4;w0=5;s2;");
      x.letter('a');
      int[] want = {3, 2, 2, 4, 1, 2};
      for (int what = 0; what <= 5; what++) {
        due(x.count(what), want[what]);
      }
      leaves(y -> y.count(0), y -> y.count(16));
    });
    says("5 PIPES (bits) that RUN", () -> {
      SiphonsBench x = bench("v9,20,9;v9,0,9;");
      for (int p = 0; p < 8; p++) {
        x.pipe(0, 1, 20, 0, 1);
        x.kind(p, 1, 0);
      }
      x.water(0, 81);
      due(x.count(5), 0);
      x.passes(1);
      due(x.count(5), 255);
      x.kind(3, 1, 0);
      due(x.count(5), 255 - 8);
    });
    says("11 .. 16 REFUSALS -1 .. -6", () -> {
      SiphonsBench x = new SiphonsBench();
      int[] times = {1, 2, 3, 4, 0, 5};
      for (int i = 0; i < 5; i++) {
        if (i < 1) x.over(0);
        if (i < 2) x.round(3);
        if (i < 3) x.on();
        if (i < 4) x.passes(0);
        x.passes(100);
      }
      for (int what = 11; what <= 16; what++) {
        due(x.count(what), times[what - 11]);
      }
    });
    says("11 .. 16 REFUSALS", () -> {
      // Of longs they are counted, too.
      SiphonsBench x = new SiphonsBench();
      x.level(0, 0);
      x.goes(0);
      x.shown(0);
      x.work(2);
      x.leak(1, 1, 0);
      x.leak(21, 1, 0);
      x.leak(2, 1, 2);
      int[] times = {3, 2, 0, 1, 0, 1};
      for (int what = 11; what <= 16; what++) {
        due(x.count(what), times[what - 11]);
      }
    });
    says("-9 for another what", () -> {
      for (int what : new int[] {-1, 6, 7, 10, 17, LEAST, MOST}) {
        due(some().count(what), -9);
        leaves(x -> x.count(what));
      }
    });
  }

  public static void main(String[] args) {
    shown();
    work();
    leak();
    all();
    judge();
    whatIs();
    lots();
    list();
    put();
    lays();
    rack();
    racks();
    racked();
    like();
    image();
    on();
    count();
    finish("EdgeRestTests");
  }
}
