/** The edges that the promises 1 to 14 name, in their words: each sentence by a test of its own. */
public final class EdgeVesselTests extends Edge {
  private static void newObject() {
    section("Promise 1");
    says("Nothing there.", () -> {
      SiphonsBench x = new SiphonsBench();
      for (int what = 0; what <= 5; what++) {
        due(x.count(what), 0);
      }
      for (int what = 11; what <= 16; what++) {
        due(x.count(what), 0);
      }
    });
    says("Nothing there.", () -> {
      SiphonsBench x = new SiphonsBench();
      due(x.of(0, 0), -1);
      due(x.ofPipe(0, 0), -1);
      due(x.order(0), -1);
      due(x.on(), -3);
      due(x.tells(), -1000);
    });
    says("Nothing there.", () -> {
      SiphonsBench x = new SiphonsBench();
      due(x.all(), 0);
      due(x.work(0), 0);
      due(x.then(99, 2, 0), 0);
      due(x.matters(99), -9);
      due(x.round(0), 3);
      due(x.leak(2, 30, 0), 0);
      due(x.leak(20, 30, 1), 1);
      due(x.lots(20, 1, 0), 0);
      due(x.lots(20, 1, 1), 0);
      due(x.image(), 0);
      due(x.on(), 0);
    });
    says("Nothing there.", () -> {
      SiphonsBench x = new SiphonsBench();
      for (int i = 0; i < 4; i++) {
        due(x.put(i, 0, 0), -11);
        due(x.racked(i, 0), i < 3 ? -11 : -1);
      }
    });
    says("Nothing there.", () -> {
      // Nothing of another object is there, either.
      SiphonsBench other = some();
      SiphonsBench x = new SiphonsBench();
      due(other.count(0), 3);
      alike(x, new SiphonsBench());
    });
  }

  private static void letter() {
    section("Promise 2");
    says("A letter (0 .. 255) comes", () -> {
      SiphonsBench x = new SiphonsBench();
      due(x.letter(0), 1);
      due(x.letter(255), 2);
      due(x.count(4), 2);
    });
    says("how many there are", () -> {
      SiphonsBench x = new SiphonsBench();
      for (int i = 1; i <= 120; i++) {
        due(x.letter(i), i);
      }
      due(x.count(4), 120);
    });
    says("-4", () -> refused(-4, x -> x.letter(-1), x -> x.letter(LEAST)));
    says("-6 (255", () -> refused(-6, x -> x.letter(256), x -> x.letter(MOST)));
    says("120, too)", () -> refused(Edge::lettered, -6,
        x -> x.letter(0), x -> x.letter(255), x -> x.letter(256)));
    says("-4; -6 (255; 120, too)", () -> refused(Edge::lettered, -4, x -> x.letter(-1)));
  }

  private static void tells() {
    section("Promise 3");
    says("The letters become STATEMENTS", () -> {
      SiphonsBench x = new SiphonsBench();
      due(tell(x, "v1,0,9;"), 1);
      due(x.count(0), 1);
      due(tell(x, "t0=9;"), 1);
      due(x.of(0, 4), 9);
    });
    says("The letters become STATEMENTS", () -> {
      // They meet what other calls have made since, not what an earlier text had left.
      SiphonsBench x = told("v1,0,9;v1,0,9;");
      x.water(0, 7);
      x.pipe(0, 1, 0, 0, 1);
      x.passes(5);
      int water = x.of(0, 3);
      due(tell(x, "t1=1;"), 1);
      due(x.of(0, 3), water);
      due(x.count(1), 1);
      due(x.count(2), 5);
      due(tell(x, "v1,0,9;t2=9;s9;s0;"), -2015);
      due(tell(x, "w2=0;"), -2000);
      due(tell(x, "v1,0,9;"), 1);
      due(x.of(2, 4), 0);
      due(x.count(2), 5);
    });
    says("and are no more", () -> {
      SiphonsBench x = told("s1;");
      due(x.count(4), 0);
      due(x.tells(), -1000);
      due(x.letter('s'), 1);
      // What is left of a longer text ahead doesn't count.
      due(tell(new SiphonsBench(), "v1,0,9;"), 1);
      SiphonsBench less = told("v1,0,9;");
      due(tell(less, "v1,0"), -1004);
      due(less.letter('x'), 1);
    });
    says("(with a FAULT neither)", () -> {
      SiphonsBench x = new SiphonsBench();
      due(tell(x, "s1;x"), -1003);
      due(x.count(4), 0);
      due(tell(x, "s1;s0;"), -2003);
      due(x.count(4), 0);
      due(tell(x, "s1;"), 1);
    });
    says("with a FAULT neither", () -> {
      SiphonsBench x = lettered();
      due(x.tells(), -1000);
      due(x.count(4), 0);
      due(x.letter('s'), 1);
    });
    says("how many", () -> {
      due(tell(new SiphonsBench(), "s1;"), 1);
      due(tell(new SiphonsBench(), "v1,0,9;w0=9;s1;s1;"), 4);
      StringBuilder most = new StringBuilder();
      for (int i = 0; i < 40; i++) {
        most.append("s9;");
      }
      due(tell(new SiphonsBench(), most.toString()), 40);
    });
    says("the FAULT", () -> {
      due(new SiphonsBench().tells(), -1000);
      due(tell(new SiphonsBench(), "s1;s"), -1004);
      due(tell(new SiphonsBench(), "s1;s0;"), -2003);
    });
    says("(no REFUSAL is counted)", () -> {
      String[] wrong = {"x", "v0,0,1;", "v10,0,1;", "w0=1;", "k0=6,0;", "p0>0,0,0,1;", "s0;",
        "v1,5,1;v1,5,1;p0>1,0,5,1;"};
      for (String text : wrong) {
        SiphonsBench x = new SiphonsBench();
        due(tell(x, text) < -999 ? 1 : 0, 1);
        for (int what = 11; what <= 16; what++) {
          due(x.count(what), 0);
        }
      }
    });
  }

  private static void vessel() {
    section("Promise 4");
    says("A VESSEL more: its number", () -> {
      SiphonsBench x = new SiphonsBench();
      for (int v = 0; v < 5; v++) {
        due(x.vessel(1 + v, 20 - v, 30 - v), v);
        due(x.count(0), v + 1);
      }
      for (int v = 0; v < 5; v++) {
        due(x.of(v, 0), 1 + v);
        due(x.of(v, 1), 20 - v);
        due(x.of(v, 2), 30 - v);
        due(x.of(v, 3), 0);
        due(x.of(v, 4), 0);
      }
    });
    says("-4 (AREA, RIM below 1", () -> refused(-4,
        x -> x.vessel(0, 0, 1), x -> x.vessel(LEAST, 0, 1),
        x -> x.vessel(1, 0, 0), x -> x.vessel(1, 0, LEAST)));
    says("; BASE)", () -> refused(-4, x -> x.vessel(1, -1, 1), x -> x.vessel(1, LEAST, 1)));
    says("-6 (9;", () -> refused(-6, x -> x.vessel(10, 0, 1), x -> x.vessel(MOST, 0, 1)));
    says("20;", () -> refused(-6, x -> x.vessel(1, 21, 1), x -> x.vessel(1, MOST, 1)));
    says("30;", () -> refused(-6, x -> x.vessel(1, 0, 31), x -> x.vessel(1, 0, MOST)));
    says("5 are there, too)", () -> refused(Edge::full, -6,
        x -> x.vessel(1, 0, 1), x -> x.vessel(10, 0, 1)));
    says("-4 (AREA, RIM below 1; BASE); -6 (9;", () -> {
      refused(-4, x -> x.vessel(0, 21, 31), x -> x.vessel(10, -1, 31), x -> x.vessel(10, 21, 0));
      refused(Edge::full, -4,
          x -> x.vessel(0, 0, 1), x -> x.vessel(1, -1, 1), x -> x.vessel(1, 0, 0));
    });
  }

  private static SiphonsBench eightPipes() {
    SiphonsBench x = bench("v1,0,9;v1,5,4;");
    for (int p = 0; p < 8; p++) {
      x.pipe(0, 1, 0, 5, 1);
    }
    return x;
  }

  private static void pipe() {
    section("Promise 5");
    says("A PIPE more (KIND 0, FIGURE 0): its number", () -> {
      SiphonsBench x = bench("v1,0,9;v1,5,4;");
      for (int p = 0; p < 8; p++) {
        due(x.pipe(1, 0, 5, p, 1 + p), p);
        due(x.count(1), p + 1);
      }
      for (int p = 0; p < 8; p++) {
        int[] was = {0, 0, 1, 0, 5, p, 1 + p, 0, -9};
        for (int what = 0; what < 9; what++) {
          due(x.ofPipe(p, what), was[what]);
        }
      }
    });
    says("-1 either", () -> refused(-1, x -> x.pipe(3, 0, 5, 5, 1), x -> x.pipe(-1, 0, 5, 5, 1),
        x -> x.pipe(0, 3, 5, 5, 1), x -> x.pipe(0, -1, 5, 5, 1), x -> x.pipe(LEAST, 0, 5, 5, 1),
        x -> x.pipe(0, LEAST, 5, 5, 1), x -> x.pipe(MOST, 0, 5, 5, 1), x -> x.pipe(0, MOST, 5, 5, 1)));
    says("(one twice, too)", () -> refused(-1,
        x -> x.pipe(0, 0, 5, 5, 1), x -> x.pipe(1, 1, 5, 5, 1), x -> x.pipe(2, 2, 5, 5, 1)));
    says("-4 (RATE below 1)", () -> refused(-4,
        x -> x.pipe(0, 1, 5, 5, 0), x -> x.pipe(0, 1, 5, 5, LEAST)));
    says("-6 (9;", () -> refused(-6,
        x -> x.pipe(0, 1, 5, 5, 10), x -> x.pipe(0, 1, 5, 5, MOST)));
    says("8 are there, too)", () -> refused(EdgeVesselTests::eightPipes, -6,
        x -> x.pipe(0, 1, 0, 5, 1), x -> x.pipe(1, 0, 5, 0, 9)));
    says("-3 a MOUTH is below its BASE", () -> refused(-3, x -> x.pipe(0, 1, 4, 5, 1),
        x -> x.pipe(0, 1, LEAST, 5, 1), x -> x.pipe(1, 0, 5, 4, 1), x -> x.pipe(0, 1, 5, -1, 1),
        x -> x.pipe(0, 1, 5, LEAST, 1)));
    says("above BASE and RIM together", () -> refused(-3, x -> x.pipe(0, 1, 16, 5, 1),
        x -> x.pipe(0, 1, MOST, 5, 1), x -> x.pipe(1, 0, 5, 16, 1), x -> x.pipe(0, 1, 5, 21, 1),
        x -> x.pipe(0, 1, 5, MOST, 1)));
    says("-3 a MOUTH is below its BASE, above BASE and RIM together", () -> {
      SiphonsBench x = bench("v2,5,10;v3,0,20;");
      due(x.pipe(0, 1, 5, 0, 1), 0);
      due(x.pipe(0, 1, 15, 20, 1), 1);
      due(x.pipe(1, 0, 0, 5, 1), 2);
      due(x.pipe(1, 0, 20, 15, 1), 3);
    });
    says("-1 either (one twice, too); -4 (RATE below 1); -6 (9; 8 are there, too); -3 a MOUTH", () -> {
      refused(-1, x -> x.pipe(3, 0, 99, 99, 0), x -> x.pipe(0, 3, 99, 99, 10),
          x -> x.pipe(0, 0, 99, 99, 0));
      refused(-4, x -> x.pipe(0, 1, 4, 5, 0), x -> x.pipe(0, 1, 5, 99, 0));
      refused(-6, x -> x.pipe(0, 1, 4, 5, 10), x -> x.pipe(0, 1, 5, 99, 10));
      refused(EdgeVesselTests::eightPipes, -1, x -> x.pipe(0, 0, 0, 0, 1));
      refused(EdgeVesselTests::eightPipes, -4, x -> x.pipe(0, 1, 0, 5, 0));
      refused(EdgeVesselTests::eightPipes, -6, x -> x.pipe(0, 1, 0, 4, 1));
    });
  }

  private static void kind() {
    section("Promise 6");
    says("KIND, FIGURE become others", () -> {
      SiphonsBench x = bench("v1,0,9;v1,0,9;p0>1,0,0,4;");
      for (int kind = 0; kind <= 5; kind++) {
        for (int figure = 0; figure <= 9; figure += 9) {
          x.kind(0, kind, figure);
          due(x.ofPipe(0, 0), kind);
          due(x.ofPipe(0, 1), figure);
        }
      }
    });
    says("(it RUNS no more)", () -> {
      SiphonsBench x = some();
      due(x.ofPipe(0, 7), 1);
      due(x.kind(0, 1, 2), 12);
      due(x.ofPipe(0, 7), 0);
      SiphonsBench other = some();
      due(other.kind(0, 3, 9), 12);
      due(other.ofPipe(0, 7), 0);
      due(other.count(5), 0);
    });
    says("10 times the KIND and the FIGURE it had", () -> {
      SiphonsBench x = bench("v1,0,9;v1,0,9;p0>1,0,0,4;");
      due(x.kind(0, 0, 9), 0);
      due(x.kind(0, 5, 9), 9);
      due(x.kind(0, 5, 0), 59);
      due(x.kind(0, 0, 0), 50);
    });
    says("-1;", () -> refused(-1,
        x -> x.kind(2, 0, 0), x -> x.kind(-1, 0, 0), x -> x.kind(MOST, 0, 0), x -> x.kind(LEAST, 0, 0)));
    says("-2;", () -> refused(-2,
        x -> x.kind(0, 6, 0), x -> x.kind(0, -1, 0), x -> x.kind(0, MOST, 0), x -> x.kind(0, LEAST, 0)));
    says("-4;", () -> refused(-4, x -> x.kind(0, 1, -1), x -> x.kind(0, 1, LEAST)));
    says("-6 9", () -> refused(-6, x -> x.kind(0, 1, 10), x -> x.kind(0, 1, MOST)));
    says("-1; -2; -4; -6 9", () -> {
      refused(-1, x -> x.kind(2, 6, 0), x -> x.kind(2, 0, -1), x -> x.kind(2, 0, 10));
      refused(-2, x -> x.kind(0, 6, -1), x -> x.kind(0, 6, 10));
    });
  }

  private static void rate() {
    section("Promise 7");
    says("RATE becomes v: what it was", () -> {
      SiphonsBench x = bench("v1,0,9;v1,0,9;p0>1,0,0,4;");
      due(x.rate(0, 9), 4);
      due(x.rate(0, 1), 9);
      due(x.ofPipe(0, 6), 1);
    });
    says("-1;", () -> refused(-1,
        x -> x.rate(2, 1), x -> x.rate(-1, 1), x -> x.rate(MOST, 1), x -> x.rate(LEAST, 1)));
    says("-4 (below 1)", () -> refused(-4, x -> x.rate(0, 0), x -> x.rate(0, LEAST)));
    says("-6 9", () -> refused(-6, x -> x.rate(0, 10), x -> x.rate(0, MOST)));
    says("-1; -4 (below 1); -6 9", () -> refused(-1, x -> x.rate(2, 0), x -> x.rate(2, 10)));
  }

  private static void water() {
    section("Promise 8");
    says("WATER becomes v: what it was", () -> {
      SiphonsBench x = bench("v3,2,7;v9,20,30;");
      due(x.water(0, 21), 0);
      due(x.water(0, 0), 21);
      due(x.of(0, 3), 0);
      due(x.water(1, 270), 0);
      due(x.of(1, 3), 270);
    });
    says("-1;", () -> refused(-1,
        x -> x.water(3, 0), x -> x.water(-1, 0), x -> x.water(MOST, 0), x -> x.water(LEAST, 0)));
    says("-4;", () -> refused(-4, x -> x.water(0, -1), x -> x.water(0, LEAST)));
    says("-6 (above AREA times RIM)", () -> refused(-6,
        x -> x.water(0, 21), x -> x.water(0, MOST), x -> x.water(1, 61), x -> x.water(2, 82)));
    says("-1; -4; -6 (above", () -> refused(-1, x -> x.water(3, -1), x -> x.water(3, MOST)));
  }

  private static void tap() {
    section("Promise 9");
    says("TAP becomes v: what it was", () -> {
      SiphonsBench x = bench("v3,2,7;");
      due(x.tap(0, 9), 0);
      due(x.of(0, 4), 9);
      due(x.tap(0, 0), 9);
      due(x.of(0, 4), 0);
    });
    says("-1;", () -> refused(-1,
        x -> x.tap(3, 0), x -> x.tap(-1, 0), x -> x.tap(MOST, 0), x -> x.tap(LEAST, 0)));
    says("-4;", () -> refused(-4, x -> x.tap(0, -1), x -> x.tap(0, LEAST)));
    says("-6 9", () -> refused(-6, x -> x.tap(0, 10), x -> x.tap(0, MOST)));
    says("-1; -4; -6 9", () -> refused(-1, x -> x.tap(3, -1), x -> x.tap(3, 10)));
  }

  private static void passes() {
    section("Promise 10");
    says("n STEPS (1 .. 99): STEP", () -> {
      SiphonsBench x = bench("v9,0,30;t0=2;");
      due(x.passes(1), 1);
      due(x.of(0, 3), 2);
      due(x.passes(99), 100);
      due(x.of(0, 3), 200);
      due(x.count(2), 100);
    });
    says("-4;", () -> refused(-4, x -> x.passes(0), x -> x.passes(-1), x -> x.passes(LEAST)));
    says("-6", () -> refused(-6, x -> x.passes(100), x -> x.passes(MOST)));
  }

  private static void of() {
    section("Promise 11");
    says("0 AREA, 1 BASE, 2 RIM, 3 WATER, 4 TAP", () -> {
      SiphonsBench x = bench("v3,4,5;v9,0,1;w0=14;t0=6;");
      int[] first = {3, 4, 5, 14, 6};
      int[] second = {9, 0, 1, 0, 0};
      for (int what = 0; what < 5; what++) {
        due(x.of(0, what), first[what]);
        due(x.of(1, what), second[what]);
      }
    });
    says("-1;", () -> refused(-1,
        x -> x.of(3, 0), x -> x.of(-1, 0), x -> x.of(MOST, 0), x -> x.of(LEAST, 0)));
    says("-2", () -> refused(-2,
        x -> x.of(0, 5), x -> x.of(0, -1), x -> x.of(0, MOST), x -> x.of(0, LEAST)));
    says("-1; -2", () -> refused(-1, x -> x.of(3, 5), x -> x.of(-1, -1)));
  }

  private static void ofPipe() {
    section("Promise 12");
    says("0 KIND, 1 FIGURE, 2 FIRST, 3 SECOND, 4 its MOUTH in the first, 5 in the second, 6 RATE, "
        + "7 RUNS, 8 CREST", () -> {
      int[] was = {1, 2, 0, 1, 7, 0, 2, 1, 10};
      SiphonsBench x = some();
      for (int what = 0; what < 9; what++) {
        due(x.ofPipe(0, what), was[what]);
      }
    });
    says("(of others than SIPHONS, CUPS -9)", () -> {
      SiphonsBench x = bench("v3,4,5;v9,0,9;p1>0,3,9,7;");
      int[] crests = {-9, 10, -9, 3, -9, -9};
      for (int kind = 0; kind <= 5; kind++) {
        x.kind(0, kind, 6);
        due(x.ofPipe(0, 8), crests[kind]);
      }
    });
    says("-1;", () -> refused(-1,
        x -> x.ofPipe(2, 0), x -> x.ofPipe(-1, 0), x -> x.ofPipe(MOST, 0), x -> x.ofPipe(LEAST, 0)));
    says("-2", () -> refused(-2,
        x -> x.ofPipe(0, 9), x -> x.ofPipe(0, -1), x -> x.ofPipe(0, MOST), x -> x.ofPipe(0, LEAST)));
    says("-1; -2", () -> refused(-1, x -> x.ofPipe(2, 9), x -> x.ofPipe(-1, -1)));
  }

  private static void level() {
    section("Promise 13");
    says("LEVEL: part 0 above, 1 below the line", () -> {
      SiphonsBench x = bench("v6,3,5;v9,20,30;v6,0,5;w0=9;");
      due(x.level(0, 0), 9);
      due(x.level(0, 1), 2);
      x.water(1, 270);
      due(x.level(1, 0), 50);
      due(x.level(1, 1), 1);
      due(x.level(2, 0), 0);
      due(x.level(2, 1), 1);
    });
    says("-1;", () -> refusedLong(-1,
        x -> x.level(3, 0), x -> x.level(-1, 1), x -> x.level(MOST, 0), x -> x.level(LEAST, 0)));
    says("-2", () -> refusedLong(-2,
        x -> x.level(0, 2), x -> x.level(0, -1), x -> x.level(0, MOST), x -> x.level(0, LEAST)));
    says("Refused as told: -1; -2", () -> refusedLong(-1, x -> x.level(3, 2)));
  }

  private static void goes() {
    section("Promise 14");
    says("(below 0: from SECOND to FIRST; 0: not at all", () -> {
      SiphonsBench x = bench("v1,0,9;v1,0,9;p0>1,0,0,3;w0=9;");
      due(x.goes(0), 3);
      x.water(1, 9);
      due(x.goes(0), 0);
      x.water(0, 0);
      due(x.goes(0), -3);
    });
    says("of a SIPHON, CUP as if it RAN, if it does or LEVEL of FIRST is CREST or more; else 0)", () -> {
      SiphonsBench x = bench("v1,0,9;v9,0,9;p0>1,2,0,3;k0=1,3;w0=5;");
      due(x.goes(0), 0);
      x.water(0, 6);
      due(x.goes(0), 3);
      due(x.ofPipe(0, 7), 0);
      x.passes(1);
      due(x.of(0, 3), 3);
      due(x.goes(0), 1);
      SiphonsBench cup = bench("v1,10,9;v9,0,9;p0>1,10,0,2;k0=3,2;w0=6;");
      due(cup.goes(0), 0);
      cup.water(0, 7);
      due(cup.goes(0), 4);
      cup.passes(1);
      due(cup.goes(0), 3);
    });
    says("How much a PIPE would GO now, were it the next to", () -> {
      // Neither a TAP nor the PIPE ahead of it has had its turn.
      SiphonsBench x = bench("v1,0,9;v1,0,9;p1>0,0,0,9;p0>1,0,0,9;t1=9;w0=8;");
      due(x.goes(0), -4);
      due(x.goes(1), 4);
    });
    says("Nothing changes", () -> {
      SiphonsBench x = some();
      due(x.goes(0), 2);
      due(x.goes(1), 0);
      alike(x, some());
      SiphonsBench waits = bench("v1,0,9;v9,0,9;p0>1,2,0,3;k0=1,3;w0=6;");
      due(waits.goes(0), 3);
      due(waits.count(5), 0);
    });
    says("Refused as told: -1", () -> refusedLong(-1,
        x -> x.goes(2), x -> x.goes(-1), x -> x.goes(MOST), x -> x.goes(LEAST)));
  }

  public static void main(String[] args) {
    newObject();
    letter();
    tells();
    vessel();
    pipe();
    kind();
    rate();
    water();
    tap();
    passes();
    of();
    ofPipe();
    level();
    goes();
    finish("EdgeVesselTests");
  }
}
