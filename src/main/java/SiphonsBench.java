/**
 * Tanks and siphons on a bench, as ../shared/DOC.md promises them.
 *
 * <p>No call makes an object: benches and rows are made once, with the SiphonsBench, and used again,
 * because all calls of a run live in one room.
 */
public final class SiphonsBench {
  private static final int FITS = 0;
  private static final int NOBODY = -1;
  private static final int OTHER = -2;
  private static final int STATE = -3;
  private static final int BELOW = -4;
  private static final int ROOM = -6;
  private static final int NEVER = -9;
  private static final int MISSING = -11;
  private static final int NO_PLACE = -13;
  private static final int NO_SIZE = -14;
  private static final int NOT_FOR_IT = -16;
  private static final long LONG_REFUSAL = 4000000000000000000L;

  private static final int PIPE = 0;
  private static final int SIPHON = 1;
  private static final int VALVE = 2;
  private static final int CUP = 3;
  private static final int WEIR = 4;
  private static final int DRIP = 5;
  private static final int MOST_KIND = 5;
  private static final int NO_KIND = -1;
  /** Under which KIND each KIND stands. */
  private static final int[] KIND_ABOVE = {NO_KIND, PIPE, PIPE, SIPHON, VALVE, VALVE};

  private static final int MOST_VESSELS = 5;
  private static final int MOST_PIPES = 8;
  private static final int MOST_AREA = 9;
  private static final int MOST_BASE = 20;
  private static final int MOST_RIM = 30;
  private static final int MOST_FIGURE = 9;
  private static final int MOST_RATE = 9;
  private static final int MOST_TAP = 9;
  private static final int MOST_STEP = 9999;
  private static final int MOST_SUMP = 2000000000;
  private static final int MOST_LETTERS = 120;

  private static final int MOST_PASSED = 99;
  private static final int MOST_LOOKED = 200;
  private static final int MOST_LEAST = 60;
  private static final int MOST_ODDS = 20;
  private static final int MOST_LEAKING = 30;
  private static final int MOST_LOTS = 20;
  private static final int LOT_STEPS = 30;

  private static final int LISTS = 4;
  private static final int MOST_LIST = 20;
  private static final int RACKS = 3;
  private static final int MOST_RACK = 9;

  private final Bench now;
  private final Bench kept;
  private boolean keeps;
  private final Bench trial;
  private final Mind mind;
  private final Letters letters;
  private final Row[] lists;
  private final Row[] rackRows;
  private final int[] rackKinds;
  private final int[] refusals;

  public SiphonsBench() {
    now = new Bench();
    kept = new Bench();
    keeps = false;
    trial = new Bench();
    mind = new Mind();
    letters = new Letters();
    lists = new Row[LISTS];
    for (int i = 0; i < LISTS; i++) {
      lists[i] = new Row(MOST_LIST);
    }
    rackRows = new Row[RACKS];
    for (int i = 0; i < RACKS; i++) {
      rackRows[i] = new Row(MOST_RACK);
    }
    rackKinds = new int[RACKS];
    refusals = new int[-ROOM + 1];
  }

  // ---- vessels, pipes

  public int letter(int c) {
    if (c < 0) {
      return refuse(BELOW);
    }
    if (c > 255 || letters.size >= MOST_LETTERS) {
      return refuse(ROOM);
    }
    return letters.append(c);
  }

  public int tells() {
    int answer = letters.fault();
    trial.copy(now);
    for (int i = 0; i < MOST_LETTERS && answer >= 0 && letters.more(); i++) {
      int start = letters.place;
      letters.readStatement();
      answer = comes(letters.at(start)) < 0 ? -2000 - start : answer + 1;
    }
    if (answer >= 0) {
      now.copy(trial);
    }
    letters.clear();
    return answer;
  }

  public int vessel(int area, int base, int rim) {
    return told(now.addVessel(area, base, rim));
  }

  public int pipe(int first, int second, int mouth, int other, int rate) {
    return told(now.addPipe(first, second, mouth, other, rate));
  }

  public int kind(int pipe, int kind, int figure) {
    return told(now.changeKind(pipe, kind, figure));
  }

  public int rate(int pipe, int v) {
    if (!now.hasPipe(pipe)) {
      return refuse(NOBODY);
    }
    int refusal = outside(v, 1, MOST_RATE);
    if (refusal != FITS) {
      return refuse(refusal);
    }
    int old = now.pipes[pipe].rate;
    now.pipes[pipe].rate = v;
    return old;
  }

  public int water(int vessel, int v) {
    return told(now.changeWater(vessel, v));
  }

  public int tap(int vessel, int v) {
    return told(now.changeTap(vessel, v));
  }

  public int passes(int n) {
    return told(now.passSteps(n));
  }

  public int of(int vessel, int what) {
    if (!now.hasVessel(vessel)) {
      return refuse(NOBODY);
    }
    Vessel v = now.vessels[vessel];
    switch (what) {
      case 0:
        return v.area;
      case 1:
        return v.base;
      case 2:
        return v.rim;
      case 3:
        return v.water;
      case 4:
        return v.tap;
      default:
        return refuse(OTHER);
    }
  }

  public int ofPipe(int pipe, int what) {
    if (!now.hasPipe(pipe)) {
      return refuse(NOBODY);
    }
    Pipe p = now.pipes[pipe];
    switch (what) {
      case 0:
        return p.kind;
      case 1:
        return p.figure;
      case 2:
        return p.first;
      case 3:
        return p.second;
      case 4:
        return p.mouth;
      case 5:
        return p.other;
      case 6:
        return p.rate;
      case 7:
        return p.runs ? 1 : 0;
      case 8:
        return now.crestOf(p);
      default:
        return refuse(OTHER);
    }
  }

  public long level(int vessel, int part) {
    if (!now.hasVessel(vessel)) {
      return refuseLong(NOBODY);
    }
    if (part < 0 || part > 1) {
      return refuseLong(OTHER);
    }
    Vessel v = now.vessels[vessel];
    return partOf(v.height(), v.area, part);
  }

  public long goes(int pipe) {
    if (!now.hasPipe(pipe)) {
      return refuseLong(NOBODY);
    }
    return now.wouldGo(now.pipes[pipe]);
  }

  // ---- in mind

  public int then(int n, int what, int which) {
    int refusal = outside(n, 0, MOST_PASSED);
    if (refusal != FITS) {
      return refuse(refusal);
    }
    if (what < 0 || what > 2) {
      return refuse(OTHER);
    }
    if (what == 0 && !now.hasVessel(which) || what == 1 && !now.hasPipe(which)) {
      return refuse(NOBODY);
    }
    Bench later = mind.after(now, n);
    if (what == 0) {
      return later.vessels[which].water;
    }
    if (what == 1) {
      return later.pipes[which].runs ? 1 : 0;
    }
    return later.sump;
  }

  public int over(int vessel) {
    return now.hasVessel(vessel) ? mind.firstOver(now, vessel) : refuse(NOBODY);
  }

  public int dry(int vessel) {
    return now.hasVessel(vessel) ? mind.firstDry(now, vessel) : refuse(NOBODY);
  }

  public int starts(int pipe) {
    return now.hasPipe(pipe) ? mind.firstStart(now, pipe) : refuse(NOBODY);
  }

  public int turns(int pipe, int n) {
    if (!now.hasPipe(pipe)) {
      return refuse(NOBODY);
    }
    int refusal = outside(n, 0, MOST_PASSED);
    if (refusal != FITS) {
      return refuse(refusal);
    }
    return mind.startsWithin(now, pipe, n);
  }

  public int round(int what) {
    if (what < 0 || what > 2) {
      return refuse(OTHER);
    }
    int again = mind.firstAgain(now);
    if (again < 0 || what == 0) {
      return again;
    }
    return what == 1 ? mind.earlier : again - mind.earlier;
  }

  public int least(int vessel, int pipe, int n) {
    if (!now.hasVessel(vessel) || !now.hasPipe(pipe)) {
      return refuse(NOBODY);
    }
    int refusal = outside(n, 1, MOST_LEAST);
    if (refusal != FITS) {
      return refuse(refusal);
    }
    return mind.leastWater(now, vessel, pipe, n);
  }

  public int tapBest(int vessel, int told, int n, int what) {
    if (!now.hasVessel(vessel) || !now.hasVessel(told)) {
      return refuse(NOBODY);
    }
    int refusal = outside(n, 0, MOST_PASSED);
    if (refusal != FITS) {
      return refuse(refusal);
    }
    if (what < 0 || what > 1) {
      return refuse(OTHER);
    }
    int best = mind.bestTap(now, vessel, told, n);
    return what == 0 ? best : mind.waterByTap(now, vessel, best, told, n);
  }

  public int matters(int n) {
    int refusal = outside(n, 0, MOST_PASSED);
    if (refusal != FITS) {
      return refuse(refusal);
    }
    return mind.mostMissed(now, n);
  }

  public int order(int i) {
    if (!now.hasVessel(i)) {
      return refuse(NOBODY);
    }
    for (int v = 0; v < now.vesselCount; v++) {
      if (now.vesselsAhead(v) == i) {
        return v;
      }
    }
    return NEVER;
  }

  public int meets(int one, int other) {
    if (!now.hasVessel(one) || !now.hasVessel(other) || one == other) {
      return refuse(NOBODY);
    }
    return mind.firstAlike(now, one, other);
  }

  // ---- floats, odds

  public long shown(int vessel) {
    if (!now.hasVessel(vessel)) {
      return refuseLong(NOBODY);
    }
    Vessel v = now.vessels[vessel];
    float shown = (float) v.water / (float) v.area + (float) v.base;
    return bitsOf((double) shown, 23, 127);
  }

  public long work(int what) {
    if (what < 0 || what > 1) {
      return refuseLong(OTHER);
    }
    double work = 0.0;
    for (int i = 0; i < now.vesselCount; i++) {
      Vessel v = now.vessels[i];
      double water = (double) v.water;
      work += water * ((double) v.base + water / (double) v.area / 2.0);
    }
    return what == 0 ? bitsOf(work, 52, 1023) : (long) (int) work;
  }

  public long leak(int t, int n, int part) {
    if (t < 2 || n < 1) {
      return refuseLong(BELOW);
    }
    if (t > MOST_ODDS || n > MOST_LEAKING) {
      return refuseLong(ROOM);
    }
    if (part < 0 || part > 1) {
      return refuseLong(OTHER);
    }
    return partOf(mind.leakingCases(now, t, n), power(t, now.pipeCount), part);
  }

  public int all() {
    int sum = now.sump;
    for (int v = 0; v < now.vesselCount; v++) {
      sum += now.vessels[v].water;
    }
    return sum;
  }

  // ---- lists, lots, racks

  public int judge(int list) {
    if (!isList(list) || !now.hasVessel(0)) {
      return refuse(NOBODY);
    }
    if (lists[list].isMissing()) {
      return MISSING;
    }
    return mind.firstOtherwise(now, lists[list]);
  }

  public int whatIs(int list, int pipe, int what) {
    if (!isList(list) || !now.hasPipe(pipe)) {
      return refuse(NOBODY);
    }
    if (what < 0 || what > 1) {
      return refuse(OTHER);
    }
    if (lists[list].isMissing()) {
      return MISSING;
    }
    return what == 0
        ? mind.kindsThatGo(now, pipe, lists[list])
        : mind.figuresThatGo(now, pipe, lists[list]);
  }

  public int lots(int n, int z, int what) {
    int refusal = outside(n, 1, MOST_LOTS);
    if (refusal != FITS) {
      return refuse(refusal);
    }
    if (what < 0 || what > 1) {
      return refuse(OTHER);
    }
    mind.drawBenches(now, n, z);
    return what == 0 ? mind.lotsLost : mind.lotsRun;
  }

  public int list(int list, int n) {
    if (!isList(list)) {
      return refuse(NOBODY);
    }
    if (n > MOST_LIST) {
      return refuse(ROOM);
    }
    if (n < 0) {
      return NO_SIZE;
    }
    lists[list].become(n, 0);
    return 1;
  }

  public int put(int list, int i, int v) {
    if (!isList(list)) {
      return refuse(NOBODY);
    }
    Row row = lists[list];
    if (row.isMissing()) {
      return MISSING;
    }
    if (!row.hasPlace(i)) {
      return NO_PLACE;
    }
    row.places[i] = v;
    return 1;
  }

  public int lays(int list, int i) {
    if (!isList(list)) {
      return refuse(NOBODY);
    }
    Row row = lists[list];
    if (row.isMissing()) {
      return MISSING;
    }
    for (int v = 0; v < now.vesselCount; v++) {
      if (!row.hasPlace(i + v)) {
        return NO_PLACE;
      }
      row.places[i + v] = now.vessels[v].water;
    }
    return now.vesselCount;
  }

  public int rack(int rack, int kind, int n) {
    if (!isRack(rack)) {
      return refuse(NOBODY);
    }
    if (!isKind(kind)) {
      return refuse(OTHER);
    }
    if (n > MOST_RACK) {
      return refuse(ROOM);
    }
    if (n < 0) {
      return NO_SIZE;
    }
    rackRows[rack].become(n, NO_KIND);
    rackKinds[rack] = kind;
    return 1;
  }

  public int racks(int rack, int i, int pipe) {
    if (!isRack(rack) || pipe != -1 && !now.hasPipe(pipe)) {
      return refuse(NOBODY);
    }
    Row row = rackRows[rack];
    if (row.isMissing()) {
      return MISSING;
    }
    if (!row.hasPlace(i)) {
      return NO_PLACE;
    }
    int kind = pipe == -1 ? NO_KIND : now.pipes[pipe].kind;
    if (pipe != -1 && !isUnder(kind, rackKinds[rack])) {
      return NOT_FOR_IT;
    }
    row.places[i] = kind;
    return 1;
  }

  public int racked(int rack, int i) {
    if (!isRack(rack)) {
      return refuse(NOBODY);
    }
    Row row = rackRows[rack];
    if (row.isMissing()) {
      return MISSING;
    }
    if (!row.hasPlace(i)) {
      return NO_PLACE;
    }
    return row.places[i] == NO_KIND ? NEVER : row.places[i];
  }

  public int like(int rack, int other) {
    if (!isRack(rack) || !isRack(other)) {
      return refuse(NOBODY);
    }
    if (rackRows[other].isMissing()) {
      return MISSING;
    }
    rackRows[rack].copy(rackRows[other]);
    rackKinds[rack] = rackKinds[other];
    return rackRows[rack].size;
  }

  // ---- the image, what is told

  public int image() {
    kept.copy(now);
    keeps = true;
    return now.step;
  }

  public int on() {
    if (!keeps) {
      return refuse(STATE);
    }
    now.copy(kept);
    return now.step;
  }

  public int count(int what) {
    if (what >= 11 && what <= 16) {
      return refusals[what - 10];
    }
    switch (what) {
      case 0:
        return now.vesselCount;
      case 1:
        return now.pipeCount;
      case 2:
        return now.step;
      case 3:
        return now.sump;
      case 4:
        return letters.size;
      case 5:
        return now.runBits();
      default:
        return NEVER;
    }
  }

  // What the calls above share.

  private int refuse(int refusal) {
    if (refusal <= NOBODY && refusal >= ROOM) {
      refusals[-refusal]++;
    }
    return refusal;
  }

  private long refuseLong(int refusal) {
    return LONG_REFUSAL - refuse(refusal);
  }

  /** A bench answers below 0 only where it refuses. */
  private int told(int answer) {
    return answer < 0 ? refuse(answer) : answer;
  }

  /** The STATEMENT just read comes to the bench on trial: below 0, if it is refused. */
  private int comes(int letter) {
    int[] n = letters.numbers;
    switch (letter) {
      case 'v':
        return trial.addVessel(n[0], n[1], n[2]);
      case 'p':
        return trial.addPipe(n[0], n[1], n[2], n[3], n[4]);
      case 'k':
        return trial.changeKind(n[0], n[1], n[2]);
      case 'w':
        return trial.changeWater(n[0], n[1]);
      case 't':
        return trial.changeTap(n[0], n[1]);
      default:
        return trial.passSteps(n[0]);
    }
  }

  private static int outside(int v, int least, int most) {
    if (v < least) {
      return BELOW;
    }
    return v > most ? ROOM : FITS;
  }

  private static boolean isList(int list) {
    return list >= 0 && list < LISTS;
  }

  private static boolean isRack(int rack) {
    return rack >= 0 && rack < RACKS;
  }

  private static boolean isKind(int kind) {
    return kind >= 0 && kind <= MOST_KIND;
  }

  private static boolean isUnder(int kind, int above) {
    int k = kind;
    for (int i = 0; i <= MOST_KIND && isKind(k); i++) {
      if (k == above) {
        return true;
      }
      k = KIND_ABOVE[k];
    }
    return false;
  }

  /** One part of a fraction in least terms: 0 above, 1 below the line. */
  private static long partOf(long above, long below, int part) {
    long divisor = greatestDivisor(above, below);
    if (divisor < 1) {
      return part == 0 ? above : below;
    }
    return part == 0 ? above / divisor : below / divisor;
  }

  private static long greatestDivisor(long one, long other) {
    long a = one;
    long b = other;
    // Euclid's rests at least halve in two turns, so two turns for each bit are enough.
    for (int i = 0; i < 128 && b != 0; i++) {
      long rest = a % b;
      a = b;
      b = rest;
    }
    return a;
  }

  private static long power(long base, int exponent) {
    long product = 1;
    for (int i = 0; i < exponent; i++) {
      product *= base;
    }
    return product;
  }

  /** The bits of a number not below 0, built by hand: the library's own way is not open to us. */
  private static long bitsOf(double x, int fractionBits, int bias) {
    if (!(x > 0.0)) {
      return 0L;
    }
    double scaled = x;
    int exponent = bias;
    for (int i = 0; i < 1100 && scaled >= 2.0; i++) {
      scaled /= 2.0;
      exponent++;
    }
    for (int i = 0; i < 1100 && scaled < 1.0; i++) {
      scaled *= 2.0;
      exponent--;
    }
    long one = 1L << fractionBits;
    return ((long) exponent << fractionBits) + (long) ((scaled - 1.0) * (double) one);
  }

  private static final class Vessel {
    int area;
    int base;
    int rim;
    int water;
    int tap;

    void copy(Vessel from) {
      area = from.area;
      base = from.base;
      rim = from.rim;
      water = from.water;
      tap = from.tap;
    }

    /** The WATER that fills it to its RIM. */
    int brim() {
      return area * rim;
    }

    /** LEVEL times AREA, so that it is a whole number. */
    int height() {
      return base * area + water;
    }

    /** HEAD of an end with this MOUTH, times AREA. */
    int head(int mouth) {
      int level = base * area + water;
      int sill = mouth * area;
      return level > sill ? level : sill;
    }

    /** The WATER that stands above a MOUTH. */
    int waterAbove(int mouth) {
      int above = (base - mouth) * area + water;
      return above > 0 ? above : 0;
    }

    /** Above 0 if its LEVEL is above the other's, 0 if they are alike. */
    int higherThan(Vessel other) {
      return height() * other.area - other.height() * area;
    }
  }

  private static final class Pipe {
    int first;
    int second;
    int mouth;
    int other;
    int rate;
    int kind;
    int figure;
    boolean runs;

    void copy(Pipe from) {
      first = from.first;
      second = from.second;
      mouth = from.mouth;
      other = from.other;
      rate = from.rate;
      kind = from.kind;
      figure = from.figure;
      runs = from.runs;
    }

    /** SIPHONS and CUPS start and break; the others just go. */
    boolean isSiphon() {
      return kind == SIPHON || kind == CUP;
    }

    int crest(Vessel from) {
      if (kind != CUP) {
        return mouth + figure + 1;
      }
      int crest = from.base + from.rim - figure;
      return crest > mouth ? crest : mouth;
    }

    boolean isAtCrest(Vessel from) {
      return from.height() >= crest(from) * from.area;
    }

    /** What it GOES by the HEADS, as if it RAN: below 0 from SECOND to FIRST. */
    int flow(Vessel a, Vessel b, int step) {
      int areas = a.area + b.area;
      if (areas < 1) {
        return 0;
      }
      int uneven = a.head(mouth) * b.area - b.head(other) * a.area;
      if (uneven > 0) {
        return Math.min(wish(step), Math.min(a.waterAbove(mouth), uneven / areas));
      }
      if (kind == PIPE) {
        return -Math.min(rate, Math.min(b.waterAbove(other), -uneven / areas));
      }
      return 0;
    }

    /** What it would GO, were there no lack of WATER or HEAD. */
    private int wish(int step) {
      switch (kind) {
        case CUP:
          return 2 * rate;
        case WEIR:
          return Integer.MAX_VALUE;
        case DRIP:
          return step % 3 == figure % 3 ? rate : 0;
        default:
          return rate;
      }
    }
  }

  /** VESSELS, PIPES, THE SUMP and STEP: all that THE IMAGE holds. */
  private static final class Bench {
    final Vessel[] vessels;
    final Pipe[] pipes;
    int vesselCount;
    int pipeCount;
    int sump;
    int step;
    /** PIPES (bits) that have no turn in a STEP: they neither GO nor RUN. */
    int out;
    /** What ran OVER in the last STEP, and over whose RIM (bits). */
    int lost;
    int lostBits;

    Bench() {
      vessels = new Vessel[MOST_VESSELS];
      for (int v = 0; v < MOST_VESSELS; v++) {
        vessels[v] = new Vessel();
      }
      pipes = new Pipe[MOST_PIPES];
      for (int p = 0; p < MOST_PIPES; p++) {
        pipes[p] = new Pipe();
      }
    }

    void copy(Bench from) {
      vesselCount = from.vesselCount;
      for (int v = 0; v < vesselCount; v++) {
        vessels[v].copy(from.vessels[v]);
      }
      pipeCount = from.pipeCount;
      for (int p = 0; p < pipeCount; p++) {
        pipes[p].copy(from.pipes[p]);
      }
      sump = from.sump;
      step = from.step;
      out = 0;
    }

    boolean hasVessel(int vessel) {
      return vessel >= 0 && vessel < vesselCount;
    }

    boolean hasPipe(int pipe) {
      return pipe >= 0 && pipe < pipeCount;
    }

    int addVessel(int area, int base, int rim) {
      if (area < 1 || base < 0 || rim < 1) {
        return BELOW;
      }
      if (area > MOST_AREA || base > MOST_BASE || rim > MOST_RIM || vesselCount >= MOST_VESSELS) {
        return ROOM;
      }
      Vessel v = vessels[vesselCount];
      v.area = area;
      v.base = base;
      v.rim = rim;
      v.water = 0;
      v.tap = 0;
      vesselCount++;
      return vesselCount - 1;
    }

    int addPipe(int first, int second, int mouth, int other, int rate) {
      if (!hasVessel(first) || !hasVessel(second) || first == second) {
        return NOBODY;
      }
      if (rate < 1) {
        return BELOW;
      }
      if (rate > MOST_RATE || pipeCount >= MOST_PIPES) {
        return ROOM;
      }
      if (!hasMouth(first, mouth) || !hasMouth(second, other)) {
        return STATE;
      }
      Pipe p = pipes[pipeCount];
      p.first = first;
      p.second = second;
      p.mouth = mouth;
      p.other = other;
      p.rate = rate;
      p.kind = PIPE;
      p.figure = 0;
      p.runs = false;
      pipeCount++;
      return pipeCount - 1;
    }

    private boolean hasMouth(int vessel, int mouth) {
      Vessel v = vessels[vessel];
      return mouth >= v.base && mouth <= v.base + v.rim;
    }

    int changeKind(int pipe, int kind, int figure) {
      if (!hasPipe(pipe)) {
        return NOBODY;
      }
      if (!isKind(kind)) {
        return OTHER;
      }
      int refusal = outside(figure, 0, MOST_FIGURE);
      if (refusal != FITS) {
        return refusal;
      }
      Pipe p = pipes[pipe];
      int old = 10 * p.kind + p.figure;
      p.kind = kind;
      p.figure = figure;
      p.runs = false;
      return old;
    }

    int changeWater(int vessel, int water) {
      if (!hasVessel(vessel)) {
        return NOBODY;
      }
      Vessel v = vessels[vessel];
      int refusal = outside(water, 0, v.brim());
      if (refusal != FITS) {
        return refusal;
      }
      int old = v.water;
      v.water = water;
      return old;
    }

    int changeTap(int vessel, int tap) {
      if (!hasVessel(vessel)) {
        return NOBODY;
      }
      int refusal = outside(tap, 0, MOST_TAP);
      if (refusal != FITS) {
        return refusal;
      }
      int old = vessels[vessel].tap;
      vessels[vessel].tap = tap;
      return old;
    }

    int passSteps(int n) {
      int refusal = outside(n, 1, MOST_PASSED);
      if (refusal != FITS) {
        return refusal;
      }
      for (int i = 0; i < n; i++) {
        passStep();
      }
      return step;
    }

    void passStep() {
      lost = 0;
      lostBits = 0;
      for (int v = 0; v < vesselCount; v++) {
        vessels[v].water += vessels[v].tap;
      }
      for (int p = 0; p < pipeCount; p++) {
        if ((out >> p & 1) == 0) {
          turn(pipes[p]);
        }
      }
      for (int v = 0; v < vesselCount; v++) {
        spill(v);
      }
      if (step < MOST_STEP) {
        step++;
      }
    }

    private void spill(int vessel) {
      Vessel v = vessels[vessel];
      int above = v.water - v.brim();
      if (above <= 0) {
        return;
      }
      v.water -= above;
      lost += above;
      lostBits |= 1 << vessel;
      sump = Math.min(MOST_SUMP - above, sump) + above;
    }

    /** A PIPE's turn in a STEP. */
    private void turn(Pipe p) {
      if (!hasVessel(p.first) || !hasVessel(p.second)) {
        return;
      }
      Vessel a = vessels[p.first];
      Vessel b = vessels[p.second];
      if (p.isSiphon() && !p.runs) {
        p.runs = p.isAtCrest(a);
        if (!p.runs) {
          return;
        }
      }
      int amount = p.flow(a, b, step);
      a.water -= amount;
      b.water += amount;
      if (amount == 0 || a.waterAbove(p.mouth) == 0) {
        p.runs = false;
      }
    }

    /** What it would GO now, were it the next to: below 0 from SECOND to FIRST. */
    int wouldGo(Pipe p) {
      if (!hasVessel(p.first) || !hasVessel(p.second)) {
        return 0;
      }
      Vessel a = vessels[p.first];
      boolean waits = p.isSiphon() && !p.runs && !p.isAtCrest(a);
      return waits ? 0 : p.flow(a, vessels[p.second], step);
    }

    int crestOf(Pipe p) {
      return p.isSiphon() && hasVessel(p.first) ? p.crest(vessels[p.first]) : NEVER;
    }

    int runBits() {
      int bits = 0;
      for (int p = 0; p < pipeCount; p++) {
        if (pipes[p].runs) {
          bits |= 1 << p;
        }
      }
      return bits;
    }

    /** How many VESSELS are told ahead of this one when they are in order. */
    int vesselsAhead(int vessel) {
      if (!hasVessel(vessel)) {
        return 0;
      }
      int ahead = 0;
      for (int v = 0; v < vesselCount; v++) {
        int higher = vessels[v].higherThan(vessels[vessel]);
        if (higher > 0 || higher == 0 && v < vessel) {
          ahead++;
        }
      }
      return ahead;
    }

    /** Two benches of the same vessels and pipes go on alike just if these are alike. */
    long trace() {
      long trace = step % 3;
      trace = trace << MOST_PIPES | runBits();
      for (int v = 0; v < vesselCount; v++) {
        // WATER is at most 270 between STEPS: nine bits hold it.
        trace = trace << 9 | vessels[v].water;
      }
      return trace;
    }
  }

  /** A bench on which STEPS pass in mind alone, each time from another bench on. */
  private static final class Mind {
    private final Bench bench;
    private final long[] traces;
    /** Of the last firstAgain: the STEP that it found again. */
    int earlier;
    /** Of the last drawBenches: what ran OVER, and how many PIPES RAN at the end. */
    int lotsLost;
    int lotsRun;
    private int seed;

    Mind() {
      bench = new Bench();
      traces = new long[MOST_LOOKED + 1];
    }

    Bench after(Bench now, int n) {
      bench.copy(now);
      pass(n);
      return bench;
    }

    private void pass(int n) {
      for (int i = 0; i < n; i++) {
        bench.passStep();
      }
    }

    int firstOver(Bench now, int vessel) {
      bench.copy(now);
      for (int s = 1; s <= MOST_LOOKED; s++) {
        bench.passStep();
        if ((bench.lostBits >> vessel & 1) == 1) {
          return s;
        }
      }
      return NEVER;
    }

    int firstDry(Bench now, int vessel) {
      bench.copy(now);
      for (int s = 0; s <= MOST_LOOKED && bench.hasVessel(vessel); s++) {
        if (bench.vessels[vessel].water == 0) {
          return s;
        }
        bench.passStep();
      }
      return NEVER;
    }

    int firstStart(Bench now, int pipe) {
      bench.copy(now);
      for (int s = 1; s <= MOST_LOOKED; s++) {
        if (startsInStep(pipe)) {
          return s;
        }
      }
      return NEVER;
    }

    int startsWithin(Bench now, int pipe, int n) {
      bench.copy(now);
      int starts = 0;
      for (int s = 1; s <= n; s++) {
        if (startsInStep(pipe)) {
          starts++;
        }
      }
      return starts;
    }

    /** A STEP passes: whether the PIPE RUNS behind it that didn't ahead of it. */
    private boolean startsInStep(int pipe) {
      if (!bench.hasPipe(pipe)) {
        return false;
      }
      boolean ran = bench.pipes[pipe].runs;
      bench.passStep();
      return !ran && bench.pipes[pipe].runs;
    }

    int firstAgain(Bench now) {
      bench.copy(now);
      for (int s = 0; s <= MOST_LOOKED && s < traces.length; s++) {
        long trace = bench.trace();
        for (int e = 0; e < s; e++) {
          if (traces[e] == trace) {
            earlier = e;
            return s;
          }
        }
        traces[s] = trace;
        bench.passStep();
      }
      return NEVER;
    }

    int leastWater(Bench now, int vessel, int pipe, int n) {
      if (!now.hasVessel(vessel) || !now.hasPipe(pipe) || !now.pipes[pipe].isSiphon()) {
        return NEVER;
      }
      int brim = now.vessels[vessel].brim();
      for (int water = 0; water <= brim; water++) {
        bench.copy(now);
        bench.vessels[vessel].water = water;
        if (runsWithin(pipe, n)) {
          return water;
        }
      }
      return NEVER;
    }

    private boolean runsWithin(int pipe, int n) {
      for (int s = 1; s <= n && bench.hasPipe(pipe); s++) {
        bench.passStep();
        if (bench.pipes[pipe].runs) {
          return true;
        }
      }
      return false;
    }

    int bestTap(Bench now, int vessel, int told, int n) {
      int best = 0;
      int most = -1;
      for (int tap = 0; tap <= MOST_TAP; tap++) {
        int water = waterByTap(now, vessel, tap, told, n);
        if (water > most) {
          best = tap;
          most = water;
        }
      }
      return best;
    }

    /** WATER of the told VESSEL behind n STEPS with this TAP. */
    int waterByTap(Bench now, int vessel, int tap, int told, int n) {
      bench.copy(now);
      if (!bench.hasVessel(vessel) || !bench.hasVessel(told)) {
        return 0;
      }
      bench.vessels[vessel].tap = tap;
      pass(n);
      return bench.vessels[told].water;
    }

    int mostMissed(Bench now, int n) {
      int withAll = sumpWithout(now, 0, n);
      int missed = NEVER;
      int most = -1;
      for (int p = 0; p < now.pipeCount; p++) {
        int differs = Math.abs(sumpWithout(now, 1 << p, n) - withAll);
        if (differs > most) {
          missed = p;
          most = differs;
        }
      }
      return missed;
    }

    private int sumpWithout(Bench now, int out, int n) {
      bench.copy(now);
      bench.out = out;
      pass(n);
      return bench.sump;
    }

    int firstAlike(Bench now, int one, int other) {
      bench.copy(now);
      for (int s = 0; s <= MOST_LOOKED && bench.hasVessel(one) && bench.hasVessel(other); s++) {
        if (bench.vessels[one].higherThan(bench.vessels[other]) == 0) {
          return s;
        }
        bench.passStep();
      }
      return NEVER;
    }

    /** Of t to the power of how many PIPES there are, alike likely: the cases where something runs OVER. */
    long leakingCases(Bench now, int t, int n) {
      long cases = 0;
      for (int out = 0; out < 1 << now.pipeCount; out++) {
        if (spillsWithout(now, out, n)) {
          cases += power(t - 1, now.pipeCount - Integer.bitCount(out));
        }
      }
      return cases;
    }

    private boolean spillsWithout(Bench now, int out, int n) {
      bench.copy(now);
      bench.out = out;
      for (int s = 1; s <= n; s++) {
        bench.passStep();
        if (bench.lost > 0) {
          return true;
        }
      }
      return false;
    }

    int firstOtherwise(Bench now, Row told) {
      bench.copy(now);
      for (int s = 0; told.hasPlace(s) && bench.hasVessel(0); s++) {
        if (told.places[s] != Integer.MIN_VALUE && told.places[s] != bench.vessels[0].water) {
          return s;
        }
        bench.passStep();
      }
      return NEVER;
    }

    int kindsThatGo(Bench now, int pipe, Row told) {
      bench.copy(now);
      int kinds = 0;
      for (int kind = 0; kind <= MOST_KIND && bench.hasPipe(pipe); kind++) {
        bench.pipes[pipe].kind = kind;
        if (goesAsTold(bench.pipes[pipe], told)) {
          kinds |= 1 << kind;
        }
      }
      return kinds;
    }

    int figuresThatGo(Bench now, int pipe, Row told) {
      bench.copy(now);
      int figures = 0;
      for (int figure = 0; figure <= MOST_FIGURE && bench.hasPipe(pipe); figure++) {
        bench.pipes[pipe].figure = figure;
        if (goesAsTold(bench.pipes[pipe], told)) {
          figures |= 1 << figure;
        }
      }
      return figures;
    }

    /** Whether it would GO as much as the row tells of each RATE from 1 on. */
    private boolean goesAsTold(Pipe p, Row told) {
      for (int rate = 1; rate <= MOST_RATE && told.hasPlace(rate - 1); rate++) {
        p.rate = rate;
        if (bench.wouldGo(p) != told.places[rate - 1]) {
          return false;
        }
      }
      return true;
    }

    void drawBenches(Bench now, int n, int z) {
      seed = z;
      lotsLost = 0;
      lotsRun = 0;
      for (int i = 0; i < n; i++) {
        bench.copy(now);
        for (int v = 0; v < bench.vesselCount; v++) {
          bench.vessels[v].water = draw(bench.vessels[v].brim() + 1);
        }
        for (int s = 0; s < LOT_STEPS; s++) {
          bench.passStep();
          lotsLost += bench.lost;
        }
        lotsRun += Integer.bitCount(bench.runBits());
      }
    }

    private int draw(int below) {
      seed = seed * 1664525 + 1013904223;
      return below < 1 ? 0 : (seed & Integer.MAX_VALUE) / 256 % below;
    }
  }

  /** The letters that have come, and how far they are read as STATEMENTS. */
  private static final class Letters {
    private final int[] signs;
    int size;
    /** Where reading stands. */
    int place;
    /** The numbers of the STATEMENT read last. */
    final int[] numbers;

    Letters() {
      signs = new int[MOST_LETTERS];
      numbers = new int[5];
    }

    int append(int sign) {
      if (size < signs.length) {
        signs[size] = sign;
        size++;
      }
      return size;
    }

    void clear() {
      size = 0;
    }

    boolean more() {
      return place < size;
    }

    /** The letter there, -1 behind the last. */
    int at(int i) {
      return i >= 0 && i < size && i < signs.length ? signs[i] : -1;
    }

    /** The FAULT of kind 1, or 0; reading stands at the begin again. */
    int fault() {
      int fault = 0;
      place = 0;
      for (int i = 0; i <= MOST_LETTERS && fault == 0 && (i == 0 || more()); i++) {
        if (!readStatement()) {
          fault = -1000 - place;
        }
      }
      place = 0;
      return fault;
    }

    /** Reads one STATEMENT; if it can't go on, it stands at the letter that is at fault. */
    boolean readStatement() {
      String form = formOf(at(place));
      if (form.isEmpty()) {
        return false;
      }
      place++;
      int told = 0;
      for (int i = 0; i < form.length(); i++) {
        if (form.charAt(i) == 'n') {
          if (!readNumber(told)) {
            return false;
          }
          told++;
        } else {
          if (at(place) != form.charAt(i)) {
            return false;
          }
          place++;
        }
      }
      return true;
    }

    /** What stands behind a STATEMENT's first letter: n is a number, the rest is as it is. */
    private static String formOf(int letter) {
      switch (letter) {
        case 'v':
          return "n,n,n;";
        case 'p':
          return "n>n,n,n,n;";
        case 'k':
          return "n=n,n;";
        case 'w':
        case 't':
          return "n=n;";
        case 's':
          return "n;";
        default:
          return "";
      }
    }

    private boolean readNumber(int i) {
      int tens = digit(at(place));
      if (tens < 0) {
        return false;
      }
      place++;
      int ones = digit(at(place));
      if (ones >= 0) {
        place++;
      }
      if (i >= 0 && i < numbers.length) {
        numbers[i] = ones < 0 ? tens : 10 * tens + ones;
      }
      return true;
    }

    private static int digit(int letter) {
      return letter >= '0' && letter <= '9' ? letter - '0' : -1;
    }
  }

  /** A row of ints that may be missing: a LIST, or the KINDS that lie in a RACK. */
  private static final class Row {
    final int[] places;
    /** -1 while it is missing. */
    int size;

    Row(int most) {
      places = new int[most];
      size = -1;
    }

    boolean isMissing() {
      return size < 0;
    }

    boolean hasPlace(int i) {
      return i >= 0 && i < size && i < places.length;
    }

    void become(int n, int filler) {
      size = n;
      for (int i = 0; i < n && i < places.length; i++) {
        places[i] = filler;
      }
    }

    void copy(Row from) {
      size = from.size;
      for (int i = 0; i < size && i < places.length && i < from.places.length; i++) {
        places[i] = from.places[i];
      }
    }
  }
}
