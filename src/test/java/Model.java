import java.math.BigInteger;
import java.util.ArrayList;
import java.util.Arrays;
import java.util.HashSet;
import java.util.List;
import java.util.Set;
import java.util.regex.Matcher;
import java.util.regex.Pattern;

/**
 * The document once more, written apart from the program and by other means (fractions of BigInteger,
 * a pattern for the texts), so that RandomTest can hold the one against the other.
 */
final class Model {
  private static final long VOID = Long.MIN_VALUE, CLASHED = Long.MIN_VALUE + 1;
  private static final int[] SQUARES = {627, 1170, 1786};
  private static final int[] SINES = {0, 0, 1000, 866, 707, 587, 500, 433, 382};
  private static final Pattern TEXT;

  static {
    String n = "[0-9]{1,3}";
    String act = "(?:w -?" + n + "|s " + n + ",-?" + n + "|p " + n + "|t " + n + "," + n + "|x)";
    TEXT = Pattern.compile(act + "(?:;" + act + ")*");
  }

  /** A fraction in lowest terms, its sign above. */
  private record Frac(BigInteger above, BigInteger below) {
    static Frac of(BigInteger a, BigInteger b) {
      BigInteger g = a.gcd(b).multiply(BigInteger.valueOf(b.signum()));
      return new Frac(a.divide(g), b.divide(g));
    }

    static Frac of(long a, long b) {
      return of(BigInteger.valueOf(a), BigInteger.valueOf(b));
    }

    Frac plus(Frac o) {
      return of(above.multiply(o.below).add(o.above.multiply(below)), below.multiply(o.below));
    }

    Frac minus(Frac o) {
      return plus(of(o.above.negate(), o.below));
    }

    Frac times(Frac o) {
      return of(above.multiply(o.above), below.multiply(o.below));
    }

    Frac turned() {
      return of(below, above);
    }

    Frac abs() {
      return new Frac(above.abs(), below);
    }

    int compare(Frac o) {
      return above.multiply(o.below).compareTo(o.above.multiply(below));
    }

    long part(int part) {
      return (part == 0 ? above : below).longValueExact();
    }
  }

  private record State(List<int[]> wheels, List<int[]> pairs, int pressure) {
    State copy() {
      List<int[]> ws = new ArrayList<>();
      for (int[] w : wheels) {
        ws.add(w.clone());
      }
      return new State(ws, new ArrayList<>(pairs), pressure);
    }
  }

  private State now = new State(new ArrayList<>(), new ArrayList<>(), 1);
  private State kept = null;
  private String tape = "";
  private final long[][] rows = new long[3][];

  private static boolean in(long v, long least, long most) {
    return least <= v && v <= most;
  }

  private boolean known(int w) {
    return in(w, 0, now.wheels.size() - 1);
  }

  private int z(int w) {
    return now.wheels.get(w)[0];
  }

  private int s(int w) {
    return now.wheels.get(w)[1];
  }

  int wheel(int teeth) {
    if (!in(teeth, -99, -20) && !in(teeth, 5, 99)) {
      return -1;
    }
    if (now.wheels.size() == 16) {
      return -3;
    }
    now.wheels.add(new int[] {teeth, 0});
    return now.wheels.size() - 1;
  }

  int shift(int w, int v) {
    if (!known(w) || !in(v, -50, 100)) {
      return -1000;
    }
    int was = s(w);
    now.wheels.get(w)[1] = v;
    return was;
  }

  int pressure(int v) {
    if (!in(v, 0, 2)) {
      return -1;
    }
    int was = now.pressure;
    now = new State(now.wheels, now.pairs, v);
    return was;
  }

  private boolean free(int teeth, int shift) {
    return teeth * SQUARES[now.pressure] - 200 * (100 - shift) >= 0;
  }

  private boolean undercut(int w) {
    return z(w) > 0 && !free(z(w), s(w));
  }

  private boolean pointed(int w) {
    return z(w) > 0 && s(w) > 5 * z(w) - 10;
  }

  int of(int w, int what) {
    if (!known(w) || !in(what, 0, 5)) {
      return -1000;
    }
    if (what == 4) {
      int least = 101;
      for (int v = 100; v >= -50; v--) {
        least = z(w) > 0 && free(z(w), v) ? v : least;
      }
      return least == 101 ? -1001 : least;
    }
    int pairs = (int) now.pairs.stream().filter(p -> p[0] == w || p[1] == w).count();
    return new int[] {z(w), s(w), undercut(w) ? 1 : 0, pointed(w) ? 1 : 0, 0, pairs}[what];
  }

  int fewest(int v) {
    if (!in(v, -50, 100)) {
      return -1;
    }
    int teeth = 5;
    while (teeth < 100 && !free(teeth, v)) {
      teeth++;
    }
    return teeth == 100 ? -2 : teeth;
  }

  private boolean pairable(int a, int b) {
    return known(a) && known(b) && a != b && (z(a) > 0 || z(b) > 0);
  }

  private boolean clash(int a, int b) {
    int ring = Math.min(z(a), z(b)), outward = Math.max(z(a), z(b));
    return ring < 0 && -ring < outward + 8;
  }

  private Frac distanceOf(int a, int b) {
    if (z(a) > 0 && z(b) > 0) {
      return Frac.of(z(a) + z(b), 2).plus(Frac.of(s(a) + s(b), 100));
    }
    int ring = z(a) < 0 ? a : b, outward = a + b - ring;
    return Frac.of(-z(ring) - z(outward), 2).plus(Frac.of(s(ring) - s(outward), 100));
  }

  private Frac ratioOf(int a, int b) {
    int sign = z(a) > 0 && z(b) > 0 ? -1 : 1;
    return Frac.of((long) sign * Math.abs(z(b)), Math.abs(z(a)));
  }

  private long told(int a, int b, int part, boolean distance) {
    if (!in(part, 0, 1) || !pairable(a, b)) {
      return VOID;
    }
    return clash(a, b) ? CLASHED : (distance ? distanceOf(a, b) : ratioOf(a, b)).part(part);
  }

  long distance(int a, int b, int part) {
    return told(a, b, part, true);
  }

  long ratio(int a, int b, int part) {
    return told(a, b, part, false);
  }

  private static long root(long v) {
    return BigInteger.valueOf(v).sqrt().longValueExact();
  }

  private long reach(int w, long c) {
    long x = 50L * z(w) + 100 + s(w), in = (4 * x * x - (long) z(w) * z(w) * c) * 2500;
    return in < 0 ? 0 : root(in);
  }

  long contact(int a, int b, int end) {
    if (!in(end, 0, 1) || !pairable(a, b) || z(a) < 0 || z(b) < 0) {
      return VOID;
    }
    long sq = SQUARES[now.pressure], c = 10000 - sq, big = root(c * 10000);
    long d = 50L * (z(a) + z(b)) + s(a) + s(b), h = root(d * d * sq);
    long both = reach(a, c) + reach(b, c);
    long low = (both - h - 1) * 10000000 / (31416 * (big + 1));
    long high = (both + 2 - h) * 10000000 / (31415 * big) + 1;
    return Math.max(0, end == 0 ? low : high);
  }

  int shiftFor(int w, int other, int p, int q) {
    if (!pairable(w, other) || !in(p, 1, 9999) || !in(q, 1, 9999)) {
      return -1000;
    }
    if (clash(w, other)) {
      return -1002;
    }
    int was = s(w), found = -1001;
    for (int v = -50; v <= 100; v++) {
      now.wheels.get(w)[1] = v;
      found = distanceOf(w, other).compare(Frac.of(p, q)) == 0 ? v : found;
    }
    now.wheels.get(w)[1] = was;
    return found;
  }

  int wheels(int what) {
    if (!in(what, 0, 3)) {
      return -1;
    }
    int[] n = new int[4];
    Set<Integer> unlike = new HashSet<>();
    for (int w = 0; w < now.wheels.size(); w++) {
      n[0] += undercut(w) ? 1 : 0;
      n[1] += pointed(w) ? 1 : 0;
      n[2] += z(w) < 0 ? 1 : 0;
      unlike.add(z(w));
    }
    n[3] = unlike.size();
    return n[what];
  }

  int pair(int a, int b) {
    if (!pairable(a, b)) {
      return -1;
    }
    if (now.pairs.size() == 9) {
      return -3;
    }
    now.pairs.add(new int[] {a, b});
    return now.pairs.size();
  }

  int clear() {
    int had = now.pairs.size();
    now.pairs.clear();
    return had;
  }

  int faulty() {
    for (int[] p : now.pairs) {
      if (clash(p[0], p[1])) {
        return now.pairs.indexOf(p);
      }
    }
    return -2;
  }

  long train(int part) {
    if (!in(part, 0, 1) || now.pairs.isEmpty()) {
      return VOID;
    }
    if (faulty() != -2) {
      return CLASHED;
    }
    Frac all = Frac.of(1, 1);
    for (int[] p : now.pairs) {
      all = all.times(ratioOf(p[0], p[1]));
    }
    return all.part(part);
  }

  long closest(int what) {
    if (!in(what, 0, 2) || now.pairs.isEmpty()) {
      return VOID;
    }
    if (faulty() != -2) {
      return CLASHED;
    }
    int best = 0;
    Frac least = null;
    for (int i = 0; i < now.pairs.size(); i++) {
      Frac d = distanceOf(now.pairs.get(i)[0], now.pairs.get(i)[1]);
      if (least == null || d.compare(least) < 0) {
        least = d;
        best = i;
      }
    }
    return what == 0 ? best : least.part(what - 1);
  }

  int together(int sun, int planet, int k) {
    if (!in(sun, 5, 99) || !in(planet, 5, 99) || !in(k, 1, 8)) {
      return -1000;
    }
    boolean divides = (2 * sun + 2 * planet) % k == 0;
    boolean apart = k == 1 || (sun + planet) * SINES[k] > 1000 * (planet + 2);
    return divides && apart ? 1 : -((divides ? 0 : 1) + (apart ? 0 : 2));
  }

  int most(int sun, int planet) {
    int best = -1;
    for (int k = 1; k <= 8; k++) {
      best = together(sun, planet, k) == 1 ? k : best;
    }
    return best;
  }

  long planets(int sun, int planet, int drives, int held, int part) {
    boolean good = in(sun, 5, 99) && in(planet, 5, 99) && in(drives, 0, 2) && in(held, 0, 2) && in(part, 0, 1);
    if (!good || drives == held) {
      return VOID;
    }
    long r = sun + 2L * planet;
    switch (10 * drives + held) {
      case 1: return Frac.of(-r, sun).part(part);
      case 21: return Frac.of(-r, sun).turned().part(part);
      case 2: return Frac.of(sun + r, sun).part(part);
      case 12: return Frac.of(sun + r, sun).turned().part(part);
      case 20: return Frac.of(sun + r, r).part(part);
      default: return Frac.of(sun + r, r).turned().part(part);
    }
  }

  int searched(int ab, int k, int uw, int t, int what) {
    int a = ab / 100, b = ab % 100, u = uw / 100, w = uw % 100;
    boolean good = ab > 0 && uw > 0 && in(a, 5, 60) && in(b, 5, 60) && a <= b && in(u, 1, 99) && in(w, 1, 99);
    if (!good || !in(k, 1, 8) || !in(t, 0, 200) || !in(what, 0, 3)) {
      return -1;
    }
    int[] best = {0, 0, 0, 0};
    Frac least = null;
    for (int s = b; s >= a; s--) {
      for (int p = b; p >= a; p--) {
        Frac off = Frac.of(2L * s + 2L * p, s).times(Frac.of(w, 1)).minus(Frac.of(u, 1)).abs();
        boolean near = off.compare(Frac.of((long) u * t, 1000)) <= 0;
        if (!near || together(s, p, k) != 1) {
          continue;
        }
        int teeth = 2 * s + 2 * p + k * p, order = least == null ? -1 : off.compare(least);
        order = order != 0 ? order : Integer.compare(teeth, best[3]);
        order = order != 0 ? order : Integer.compare(s, best[1]);
        if (order < 0) {
          least = off;
          best = new int[] {best[0], s, p, teeth};
        }
        best[0]++;
      }
    }
    return what > 0 && best[0] == 0 ? -2 : best[what];
  }

  int feed(int letter) {
    if (!in(letter, 32, 126)) {
      return -1;
    }
    if (tape.length() == 80) {
      return -3;
    }
    tape += (char) letter;
    return tape.length();
  }

  /** How many bytes lie ahead of the first one with which no text goes on. */
  private static int fault(String text) {
    for (int i = 1; i <= text.length(); i++) {
      Matcher m = TEXT.matcher(text.substring(0, i));
      if (!m.matches() && !m.hitEnd()) {
        return i - 1;
      }
    }
    return text.length();
  }

  int read() {
    String text = tape;
    tape = "";
    if (!TEXT.matcher(text).matches()) {
      return -100 - fault(text);
    }
    State ahead = now.copy();
    String[] acts = text.split(";");
    for (int i = 0; i < acts.length; i++) {
      if (act(acts[i]) < 0) {
        now = ahead;
        return -200 - i;
      }
    }
    return acts.length;
  }

  /** Below 0 if it is refused. */
  private int act(String act) {
    if (act.equals("x")) {
      return clear();
    }
    String[] told = act.substring(2).split(",");
    int first = Integer.parseInt(told[0]), second = told.length > 1 ? Integer.parseInt(told[1]) : 0;
    switch (act.charAt(0)) {
      case 'w': return wheel(first);
      case 's': return shift(first, second) == -1000 ? -1 : 0;
      case 'p': return pressure(first);
      default: return pair(first, second);
    }
  }

  int row(int r, int n) {
    if (!in(r, 0, 2) || n > 20) {
      return -1;
    }
    if (n < -1) {
      return -14;
    }
    rows[r] = n < 0 ? null : new long[n];
    return 1;
  }

  /** 0 if the row is there, else the refusal. */
  private int lacks(int r) {
    return !in(r, 0, 2) ? -1 : rows[r] == null ? -11 : 0;
  }

  int put(int r, int i, long v) {
    if (lacks(r) != 0) {
      return lacks(r);
    }
    if (!in(i, 0, rows[r].length - 1)) {
      return -13;
    }
    rows[r][i] = v;
    return 1;
  }

  long get(int r, int i) {
    return lacks(r) != 0 || !in(i, 0, rows[r].length - 1) ? VOID : rows[r][i];
  }

  int lay(int r) {
    if (lacks(r) != 0) {
      return lacks(r);
    }
    long[] teeth = now.wheels.stream().mapToLong(w -> w[0]).limit(rows[r].length).toArray();
    System.arraycopy(teeth, 0, rows[r], 0, teeth.length);
    return teeth.length;
  }

  int judge(int r) {
    if (lacks(r) != 0) {
      return lacks(r);
    }
    long[] teeth = now.wheels.stream().mapToLong(w -> w[0]).toArray();
    int first = Arrays.mismatch(rows[r], teeth);
    return first < 0 || first >= rows[r].length ? -2 : first;
  }

  int image() {
    kept = now.copy();
    return now.wheels.size();
  }

  int undo() {
    if (kept == null) {
      return -5;
    }
    now = kept.copy();
    return now.wheels.size();
  }

  int count(int what) {
    if (!in(what, 0, 4)) {
      return -1;
    }
    int outward = now.wheels.stream().mapToInt(w -> Math.max(0, w[0])).sum();
    return new int[] {now.wheels.size(), now.pairs.size(), tape.length(), now.pressure, outward}[what];
  }
}
