import java.util.ArrayList;
import java.util.Arrays;
import java.util.HashMap;
import java.util.List;
import java.util.Map;
import java.util.TreeMap;
import java.util.function.Function;
import java.util.function.Predicate;
import java.util.regex.Matcher;
import java.util.regex.Pattern;

/**
 * The document once more, written apart from SiphonsBench and in another way: by fractions, copies,
 * regular expressions and the whole library. ModelTests compares the two.
 */
final class Model {
  record Fraction(long above, long below) implements Comparable<Fraction> {
    static Fraction of(long above, long below) {
      long a = Math.abs(above);
      long b = below;
      while (b != 0) {
        long rest = a % b;
        a = b;
        b = rest;
      }
      return new Fraction(above / a, below / a);
    }

    Fraction plus(Fraction o) {
      return of(above * o.below + o.above * below, below * o.below);
    }

    Fraction minus(Fraction o) {
      return plus(new Fraction(-o.above, o.below));
    }

    Fraction times(long n) {
      return of(above * n, below);
    }

    Fraction by(long n) {
      return of(above, below * n);
    }

    long cut() {
      return above / below;
    }

    @Override
    public int compareTo(Fraction o) {
      return Long.compare(above * o.below, o.above * below);
    }

    static Fraction max(Fraction a, Fraction b) {
      return a.compareTo(b) >= 0 ? a : b;
    }
  }

  static final class Tank {
    int area, base, rim, water, tap;

    Tank(int... of) {
      area = of[0];
      base = of[1];
      rim = of[2];
      water = of[3];
      tap = of[4];
    }

    Fraction level() {
      return Fraction.of(water, area).plus(Fraction.of(base, 1));
    }

    int full() {
      return area * rim;
    }
  }

  static final class Tube {
    int kind, figure, first, second, mouth, other, rate, runs;

    Tube(int... of) {
      kind = of[0];
      figure = of[1];
      first = of[2];
      second = of[3];
      mouth = of[4];
      other = of[5];
      rate = of[6];
      runs = of[7];
    }
  }

  static final class World {
    final List<Tank> tanks = new ArrayList<>();
    final List<Tube> tubes = new ArrayList<>();
    int sump, step;
    int[] spilled = new int[5];

    World copy() {
      World w = new World();
      for (Tank t : tanks) w.tanks.add(new Tank(t.area, t.base, t.rim, t.water, t.tap));
      for (Tube t : tubes) {
        w.tubes.add(
            new Tube(t.kind, t.figure, t.first, t.second, t.mouth, t.other, t.rate, t.runs));
      }
      w.sump = sump;
      w.step = step;
      return w;
    }

    Fraction head(int tank, int mouth) {
      return Fraction.max(tanks.get(tank).level(), Fraction.of(mouth, 1));
    }

    long above(int tank, int mouth) {
      Tank t = tanks.get(tank);
      return Math.max(0, t.level().minus(Fraction.of(mouth, 1)).times(t.area).cut());
    }

    int crest(Tube t) {
      if (t.kind == 1) return t.mouth + t.figure + 1;
      if (t.kind != 3) return -9;
      Tank f = tanks.get(t.first);
      return Math.max(t.mouth, f.base + f.rim - t.figure);
    }

    boolean wakes(Tube t) {
      return tanks.get(t.first).level().compareTo(Fraction.of(crest(t), 1)) >= 0;
    }

    /** By how all is now, RUNS not looked at. */
    long flow(Tube t) {
      Fraction here = head(t.first, t.mouth);
      Fraction there = head(t.second, t.other);
      int side = here.compareTo(there);
      if (side == 0 || side < 0 && t.kind != 0) return 0;
      long want = t.rate;
      if (t.kind == 3) want = 2L * t.rate;
      if (t.kind == 4) want = Long.MAX_VALUE;
      if (t.kind == 5 && step % 3 != t.figure % 3) want = 0;
      long a = tanks.get(t.first).area;
      long b = tanks.get(t.second).area;
      Fraction differ = side > 0 ? here.minus(there) : there.minus(here);
      long alike = differ.times(a * b).by(a + b).cut();
      long stands = side > 0 ? above(t.first, t.mouth) : above(t.second, t.other);
      return side * Math.min(want, Math.min(alike, stands));
    }

    long would(Tube t) {
      boolean sleeps = (t.kind == 1 || t.kind == 3) && t.runs == 0 && !wakes(t);
      return sleeps ? 0 : flow(t);
    }

    void step(Predicate<Integer> gone) {
      for (Tank t : tanks) t.water += t.tap;
      for (int i = 0; i < tubes.size(); i++) {
        Tube t = tubes.get(i);
        if (gone.test(i)) {
          t.runs = 0;
          continue;
        }
        boolean lifts = t.kind == 1 || t.kind == 3;
        if (lifts && wakes(t)) t.runs = 1;
        if (lifts && t.runs == 0) continue;
        long amount = flow(t);
        tanks.get(t.first).water -= amount;
        tanks.get(t.second).water += amount;
        if (lifts && (amount == 0 || above(t.first, t.mouth) == 0)) t.runs = 0;
      }
      for (int i = 0; i < tanks.size(); i++) {
        Tank t = tanks.get(i);
        spilled[i] = Math.max(0, t.water - t.full());
        t.water -= spilled[i];
        sump = (int) Math.min(2000000000L, (long) sump + spilled[i]);
      }
      step = Math.min(9999, step + 1);
    }

    World steps(int n) {
      for (int i = 0; i < n; i++) step(p -> false);
      return this;
    }

    String trace() {
      StringBuilder s = new StringBuilder();
      for (Tank t : tanks) s.append(t.water).append(' ');
      for (Tube t : tubes) s.append(t.runs).append(' ');
      return s.append(step % 3).toString();
    }

    int spilledOfAll() {
      return Arrays.stream(spilled).sum();
    }

    int runCount() {
      return tubes.stream().mapToInt(t -> t.runs).sum();
    }
  }

  private World now = new World();
  private World kept = null;
  private final StringBuilder text = new StringBuilder();
  private final Map<Integer, int[]> lists = new TreeMap<>();
  private final Map<Integer, int[]> rackRows = new TreeMap<>();
  private final Map<Integer, Integer> rackKinds = new TreeMap<>();
  private final Map<Integer, Integer> refused = new HashMap<>();
  private boolean quiet = false;

  private int no(int refusal) {
    if (!quiet) refused.merge(refusal, 1, Integer::sum);
    return refusal;
  }

  private long noLong(int refusal) {
    return 4000000000000000000L - no(refusal);
  }

  private boolean noTank(int i) {
    return i < 0 || i >= now.tanks.size();
  }

  private boolean noTube(int i) {
    return i < 0 || i >= now.tubes.size();
  }

  public int letter(int c) {
    if (c < 0) return no(-4);
    if (c > 255 || text.length() == 120) return no(-6);
    text.append((char) c);
    return text.length();
  }

  private static final String N = "([0-9][0-9]?)";
  private static final Pattern ONE =
      Pattern.compile(
          "(?:v"
              + N
              + ","
              + N
              + ","
              + N
              + ";|p"
              + N
              + ">"
              + N
              + ","
              + N
              + ","
              + N
              + ","
              + N
              + ";|k"
              + N
              + "="
              + N
              + ","
              + N
              + ";|[wt]"
              + N
              + "="
              + N
              + ";|s"
              + N
              + ";)");
  private static final Pattern ALL = Pattern.compile("(?:" + ONE.pattern() + ")+");

  public int tells() {
    String s = text.toString();
    text.setLength(0);
    if (!ALL.matcher(s).matches()) {
      for (int i = 0; i < s.length(); i++) {
        Matcher m = ALL.matcher(s.substring(0, i + 1));
        if (!m.matches() && !m.hitEnd()) return -1000 - i;
      }
      return -1000 - s.length();
    }
    World old = now;
    now = now.copy();
    quiet = true;
    int fault = 0;
    int told = 0;
    Matcher m = ONE.matcher(s);
    while (fault == 0 && m.find()) {
      List<Integer> n = new ArrayList<>();
      for (int g = 1; g <= m.groupCount(); g++) {
        if (m.group(g) != null) n.add(Integer.parseInt(m.group(g)));
      }
      int answer =
          switch (s.charAt(m.start())) {
            case 'v' -> vessel(n.get(0), n.get(1), n.get(2));
            case 'p' -> pipe(n.get(0), n.get(1), n.get(2), n.get(3), n.get(4));
            case 'k' -> kind(n.get(0), n.get(1), n.get(2));
            case 'w' -> water(n.get(0), n.get(1));
            case 't' -> tap(n.get(0), n.get(1));
            default -> passes(n.get(0));
          };
      if (answer < 0) fault = -2000 - m.start();
      told++;
    }
    quiet = false;
    if (fault == 0) return told;
    now = old;
    return fault;
  }

  public int vessel(int area, int base, int rim) {
    if (area < 1 || base < 0 || rim < 1) return no(-4);
    if (area > 9 || base > 20 || rim > 30 || now.tanks.size() == 5) return no(-6);
    now.tanks.add(new Tank(area, base, rim, 0, 0));
    return now.tanks.size() - 1;
  }

  public int pipe(int first, int second, int mouth, int other, int rate) {
    if (noTank(first) || noTank(second) || first == second) return no(-1);
    if (rate < 1) return no(-4);
    if (rate > 9 || now.tubes.size() == 8) return no(-6);
    Tank a = now.tanks.get(first);
    Tank b = now.tanks.get(second);
    if (mouth < a.base || mouth > a.base + a.rim) return no(-3);
    if (other < b.base || other > b.base + b.rim) return no(-3);
    now.tubes.add(new Tube(0, 0, first, second, mouth, other, rate, 0));
    return now.tubes.size() - 1;
  }

  public int kind(int pipe, int kind, int figure) {
    if (noTube(pipe)) return no(-1);
    if (kind < 0 || kind > 5) return no(-2);
    if (figure < 0) return no(-4);
    if (figure > 9) return no(-6);
    Tube t = now.tubes.get(pipe);
    int was = t.kind * 10 + t.figure;
    t.kind = kind;
    t.figure = figure;
    t.runs = 0;
    return was;
  }

  public int rate(int pipe, int v) {
    if (noTube(pipe)) return no(-1);
    if (v < 1) return no(-4);
    if (v > 9) return no(-6);
    int was = now.tubes.get(pipe).rate;
    now.tubes.get(pipe).rate = v;
    return was;
  }

  public int water(int vessel, int v) {
    if (noTank(vessel)) return no(-1);
    if (v < 0) return no(-4);
    Tank t = now.tanks.get(vessel);
    if (v > t.full()) return no(-6);
    int was = t.water;
    t.water = v;
    return was;
  }

  public int tap(int vessel, int v) {
    if (noTank(vessel)) return no(-1);
    if (v < 0) return no(-4);
    if (v > 9) return no(-6);
    int was = now.tanks.get(vessel).tap;
    now.tanks.get(vessel).tap = v;
    return was;
  }

  public int passes(int n) {
    if (n < 1) return no(-4);
    if (n > 99) return no(-6);
    return now.steps(n).step;
  }

  public int of(int vessel, int what) {
    if (noTank(vessel)) return no(-1);
    if (what < 0 || what > 4) return no(-2);
    Tank t = now.tanks.get(vessel);
    return new int[] {t.area, t.base, t.rim, t.water, t.tap}[what];
  }

  public int ofPipe(int pipe, int what) {
    if (noTube(pipe)) return no(-1);
    if (what < 0 || what > 8) return no(-2);
    Tube t = now.tubes.get(pipe);
    return new int[] {
      t.kind, t.figure, t.first, t.second, t.mouth, t.other, t.rate, t.runs, now.crest(t)
    }
        [what];
  }

  private static long part(Fraction f, int part) {
    return part == 0 ? f.above() : f.below();
  }

  public long level(int vessel, int part) {
    if (noTank(vessel)) return noLong(-1);
    if (part != 0 && part != 1) return noLong(-2);
    return part(now.tanks.get(vessel).level(), part);
  }

  public long goes(int pipe) {
    if (noTube(pipe)) return noLong(-1);
    return now.would(now.tubes.get(pipe));
  }

  public int then(int n, int what, int which) {
    if (n < 0) return no(-4);
    if (n > 99) return no(-6);
    if (what < 0 || what > 2) return no(-2);
    if (what == 0 && noTank(which) || what == 1 && noTube(which)) return no(-1);
    World w = now.copy().steps(n);
    return what == 0 ? w.tanks.get(which).water : what == 1 ? w.tubes.get(which).runs : w.sump;
  }

  /** The worlds behind 0, 1, .. 200 STEPS. */
  private List<World> future() {
    List<World> worlds = new ArrayList<>();
    World w = now.copy();
    worlds.add(w);
    for (int i = 1; i <= 200; i++) {
      World next = w.copy();
      next.step(p -> false);
      worlds.add(next);
      w = next;
    }
    return worlds;
  }

  private static int first(List<World> worlds, int from, Predicate<Integer> is) {
    for (int i = from; i < worlds.size(); i++) if (is.test(i)) return i;
    return -9;
  }

  public int over(int vessel) {
    if (noTank(vessel)) return no(-1);
    List<World> f = future();
    return first(f, 1, i -> f.get(i).spilled[vessel] > 0);
  }

  public int dry(int vessel) {
    if (noTank(vessel)) return no(-1);
    List<World> f = future();
    return first(f, 0, i -> f.get(i).tanks.get(vessel).water == 0);
  }

  public int starts(int pipe) {
    if (noTube(pipe)) return no(-1);
    List<World> f = future();
    return first(
        f, 1, i -> f.get(i - 1).tubes.get(pipe).runs == 0 && f.get(i).tubes.get(pipe).runs == 1);
  }

  public int turns(int pipe, int n) {
    if (noTube(pipe)) return no(-1);
    if (n < 0) return no(-4);
    if (n > 99) return no(-6);
    List<World> f = future();
    int turns = 0;
    for (int i = 1; i <= n; i++) {
      if (f.get(i).tubes.get(pipe).runs > f.get(i - 1).tubes.get(pipe).runs) turns++;
    }
    return turns;
  }

  public int round(int what) {
    if (what < 0 || what > 2) return no(-2);
    Map<String, Integer> seen = new HashMap<>();
    List<World> f = future();
    for (int i = 0; i < f.size(); i++) {
      Integer before = seen.putIfAbsent(f.get(i).trace(), i);
      if (before != null) return what == 0 ? i : what == 1 ? before : i - before;
    }
    return -9;
  }

  public int least(int vessel, int pipe, int n) {
    if (noTank(vessel) || noTube(pipe)) return no(-1);
    if (n < 1) return no(-4);
    if (n > 60) return no(-6);
    for (int water = 0; water <= now.tanks.get(vessel).full(); water++) {
      World w = now.copy();
      w.tanks.get(vessel).water = water;
      for (int i = 0; i < n; i++) {
        if (w.steps(1).tubes.get(pipe).runs == 1) return water;
      }
    }
    return -9;
  }

  public int tapBest(int vessel, int told, int n, int what) {
    if (noTank(vessel) || noTank(told)) return no(-1);
    if (n < 0) return no(-4);
    if (n > 99) return no(-6);
    if (what != 0 && what != 1) return no(-2);
    TreeMap<Integer, Integer> tapOf = new TreeMap<>();
    for (int tap = 9; tap >= 0; tap--) {
      World w = now.copy();
      w.tanks.get(vessel).tap = tap;
      tapOf.put(w.steps(n).tanks.get(told).water, tap);
    }
    return what == 0 ? tapOf.lastEntry().getValue() : tapOf.lastKey();
  }

  public int matters(int n) {
    if (n < 0) return no(-4);
    if (n > 99) return no(-6);
    Function<Integer, Integer> sumpWithout =
        gone -> {
          World w = now.copy();
          for (int i = 0; i < n; i++) w.step(p -> p.equals(gone));
          return w.sump;
        };
    int all = sumpWithout.apply(-1);
    TreeMap<Integer, Integer> byDiffer = new TreeMap<>();
    for (int p = now.tubes.size() - 1; p >= 0; p--) {
      byDiffer.put(Math.abs(all - sumpWithout.apply(p)), p);
    }
    return byDiffer.isEmpty() ? -9 : byDiffer.lastEntry().getValue();
  }

  public int order(int i) {
    if (noTank(i)) return no(-1);
    List<Integer> numbers = new ArrayList<>();
    for (int v = 0; v < now.tanks.size(); v++) numbers.add(v);
    numbers.sort((a, b) -> now.tanks.get(b).level().compareTo(now.tanks.get(a).level()));
    return numbers.get(i);
  }

  public int meets(int one, int other) {
    if (noTank(one) || noTank(other) || one == other) return no(-1);
    List<World> f = future();
    return first(
        f, 0, i -> f.get(i).tanks.get(one).level().equals(f.get(i).tanks.get(other).level()));
  }

  public long shown(int vessel) {
    if (noTank(vessel)) return noLong(-1);
    Tank t = now.tanks.get(vessel);
    return Float.floatToIntBits((float) t.water / (float) t.area + (float) t.base);
  }

  public long work(int what) {
    if (what != 0 && what != 1) return noLong(-2);
    double sum = 0.0;
    for (Tank t : now.tanks) {
      double q = ((double) t.water / (double) t.area) / 2.0;
      sum = sum + (double) t.water * ((double) t.base + q);
    }
    return what == 0 ? Double.doubleToLongBits(sum) : (int) sum;
  }

  public long leak(int t, int n, int part) {
    if (t < 2 || n < 1) return noLong(-4);
    if (t > 20 || n > 30) return noLong(-6);
    if (part != 0 && part != 1) return noLong(-2);
    return part(leakFrom(0, 0, t, n), part);
  }

  /** By PIPES one after the other: it is gone, or it isn't. */
  private Fraction leakFrom(int pipe, int gone, int t, int n) {
    if (pipe < now.tubes.size()) {
      Fraction out = leakFrom(pipe + 1, gone | 1 << pipe, t, n).by(t);
      return out.plus(leakFrom(pipe + 1, gone, t, n).times(t - 1).by(t));
    }
    World w = now.copy();
    boolean lost = false;
    for (int i = 0; i < n; i++) {
      w.step(p -> (gone >> p & 1) == 1);
      lost |= w.spilledOfAll() > 0;
    }
    return new Fraction(lost ? 1 : 0, 1);
  }

  public int all() {
    return now.sump + now.tanks.stream().mapToInt(t -> t.water).sum();
  }

  public int judge(int list) {
    if (list < 0 || list > 3 || now.tanks.isEmpty()) return no(-1);
    int[] told = lists.get(list);
    if (told == null) return -11;
    World w = now.copy();
    for (int i = 0; i < told.length; i++) {
      if (told[i] != Integer.MIN_VALUE && told[i] != w.tanks.get(0).water) return i;
      w.steps(1);
    }
    return -9;
  }

  public int whatIs(int list, int pipe, int what) {
    if (list < 0 || list > 3 || noTube(pipe)) return no(-1);
    if (what != 0 && what != 1) return no(-2);
    int[] told = lists.get(list);
    if (told == null) return -11;
    int bits = 0;
    for (int x = 0; x < (what == 0 ? 6 : 10); x++) {
      Tube is = now.tubes.get(pipe);
      int kind = what == 0 ? x : is.kind;
      int figure = what == 0 ? is.figure : x;
      boolean so = true;
      for (int rate = 1; rate <= Math.min(9, told.length); rate++) {
        Tube were =
            new Tube(kind, figure, is.first, is.second, is.mouth, is.other, rate, is.runs);
        so &= now.would(were) == told[rate - 1];
      }
      if (so) bits |= 1 << x;
    }
    return bits;
  }

  public int lots(int n, int z, int what) {
    if (n < 1) return no(-4);
    if (n > 20) return no(-6);
    if (what != 0 && what != 1) return no(-2);
    int seed = z;
    int sum = 0;
    for (int i = 0; i < n; i++) {
      World w = now.copy();
      for (Tank t : w.tanks) {
        seed = (int) ((long) seed * 1664525L + 1013904223L);
        long unsigned = seed & 0x7fffffffL;
        t.water = (int) (unsigned / 256 % (t.full() + 1));
      }
      for (int s = 0; s < 30; s++) {
        w.steps(1);
        if (what == 0) sum += w.spilledOfAll();
      }
      if (what == 1) sum += w.runCount();
    }
    return sum;
  }

  public int list(int list, int n) {
    if (list < 0 || list > 3) return no(-1);
    if (n > 20) return no(-6);
    if (n < 0) return -14;
    lists.put(list, new int[n]);
    return 1;
  }

  public int put(int list, int i, int v) {
    if (list < 0 || list > 3) return no(-1);
    int[] row = lists.get(list);
    if (row == null) return -11;
    if (i < 0 || i >= row.length) return -13;
    row[i] = v;
    return 1;
  }

  public int lays(int list, int i) {
    if (list < 0 || list > 3) return no(-1);
    int[] row = lists.get(list);
    if (row == null) return -11;
    long place = i;
    for (Tank t : now.tanks) {
      if (place < 0 || place >= row.length) return -13;
      row[(int) place++] = t.water;
    }
    return now.tanks.size();
  }

  private static final List<List<Integer>> OVER_KIND =
      List.of(
          List.of(0),
          List.of(1, 0),
          List.of(2, 0),
          List.of(3, 1, 0),
          List.of(4, 2, 0),
          List.of(5, 2, 0));

  public int rack(int rack, int kind, int n) {
    if (rack < 0 || rack > 2) return no(-1);
    if (kind < 0 || kind > 5) return no(-2);
    if (n > 9) return no(-6);
    if (n < 0) return -14;
    int[] row = new int[n];
    Arrays.fill(row, -9);
    rackRows.put(rack, row);
    rackKinds.put(rack, kind);
    return 1;
  }

  public int racks(int rack, int i, int pipe) {
    if (rack < 0 || rack > 2 || pipe != -1 && noTube(pipe)) return no(-1);
    int[] row = rackRows.get(rack);
    if (row == null) return -11;
    if (i < 0 || i >= row.length) return -13;
    if (pipe == -1) {
      row[i] = -9;
      return 1;
    }
    int kind = now.tubes.get(pipe).kind;
    if (!OVER_KIND.get(kind).contains(rackKinds.get(rack))) return -16;
    row[i] = kind;
    return 1;
  }

  public int racked(int rack, int i) {
    if (rack < 0 || rack > 2) return no(-1);
    int[] row = rackRows.get(rack);
    if (row == null) return -11;
    return i < 0 || i >= row.length ? -13 : row[i];
  }

  public int like(int rack, int other) {
    if (rack < 0 || rack > 2 || other < 0 || other > 2) return no(-1);
    if (!rackRows.containsKey(other)) return -11;
    rackRows.put(rack, rackRows.get(other).clone());
    rackKinds.put(rack, rackKinds.get(other));
    return rackRows.get(rack).length;
  }

  public int image() {
    kept = now.copy();
    return now.step;
  }

  public int on() {
    if (kept == null) return no(-3);
    now = kept.copy();
    return now.step;
  }

  public int count(int what) {
    if (what >= 11 && what <= 16) return refused.getOrDefault(10 - what, 0);
    if (what < 0 || what > 5) return -9;
    int bits = 0;
    for (int i = 0; i < now.tubes.size(); i++) bits += now.tubes.get(i).runs << i;
    return new int[] {
      now.tanks.size(), now.tubes.size(), now.step, now.sump, text.length(), bits
    }
        [what];
  }
}
