import java.util.Random;

/** All promises: runs of 512 calls, the program held against the Model, the same ones each time. */
public final class RandomTest {
  private static final int RUNS = 400, CALLS = 512;
  private static final int[] WILD = {
    Integer.MIN_VALUE, Integer.MAX_VALUE, -1, -2, 3, 4, 5, 6, 8, 9, 16, 17, 20, 21, 99, 100, 101, 10000, -1000};

  private static Random random;
  private static PinionBench x;
  private static Model m;
  private static String call;

  public static void main(String[] args) {
    for (int run = 0; run < RUNS; run++) {
      random = new Random(run);
      x = new PinionBench();
      m = new Model();
      for (int i = 0; i < CALLS; ) {
        i += step("run " + run + " call " + i + ": ", run);
      }
    }
    Due.close("RandomTest");
  }

  /** A number of the range, or now and then one that is hardly in it. */
  private static int some(int least, int most) {
    if (random.nextInt(24) == 0) {
      return WILD[random.nextInt(WILD.length)];
    }
    if (random.nextInt(12) == 0) {
      int[] edges = {least - 1, least, most, most + 1};
      return edges[random.nextInt(4)];
    }
    return least + random.nextInt(most - least + 1);
  }

  private static int wheel() {
    return some(0, Math.max(0, x.count(0) - 1));
  }

  private static int teeth() {
    return random.nextInt(3) == 0 ? some(-99, -20) : some(5, random.nextBoolean() ? 99 : 30);
  }

  private static void same(String at, String name, long got, long want, int... args) {
    StringBuilder told = new StringBuilder(at).append(name);
    for (int a : args) {
      told.append(' ').append(a);
    }
    call = told.toString();
    Due.is(call, got, want);
  }

  /** Some calls of one kind on both; says how many. */
  private static int step(String at, int run) {
    int kind = random.nextInt(run % 3 == 0 ? 34 : 30);
    if (kind < 6) {
      return change(at, kind);
    }
    if (kind < 17) {
      return ask(at, kind);
    }
    if (kind < 21) {
      return set(at, kind);
    }
    if (kind < 29) {
      return rows(at, kind);
    }
    return text(at);
  }

  private static int change(String at, int kind) {
    int a = wheel(), b = wheel(), v = some(-50, 100), z = teeth(), p = some(0, 2);
    switch (kind) {
      case 0: same(at, "wheel", x.wheel(z), m.wheel(z), z); break;
      case 1: same(at, "shift", x.shift(a, v), m.shift(a, v), a, v); break;
      case 2: same(at, "pressure", x.pressure(p), m.pressure(p), p); break;
      case 3:
        if (random.nextInt(8) == 0) {
          same(at, "clear", x.clear(), m.clear());
        }
        break;
      default: same(at, "pair", x.pair(a, b), m.pair(a, b), a, b); break;
    }
    return 1;
  }

  private static int ask(String at, int kind) {
    int a = wheel(), b = wheel(), part = some(0, 1), what = some(0, 5), s = some(-50, 100);
    switch (kind) {
      case 6: same(at, "of", x.of(a, what), m.of(a, what), a, what); break;
      case 7: same(at, "fewest", x.fewest(s), m.fewest(s), s); break;
      case 8: same(at, "distance", x.distance(a, b, part), m.distance(a, b, part), a, b, part); break;
      case 9: same(at, "ratio", x.ratio(a, b, part), m.ratio(a, b, part), a, b, part); break;
      case 10: same(at, "contact", x.contact(a, b, part), m.contact(a, b, part), a, b, part); break;
      case 11: shiftFor(at, a, b); break;
      case 12: same(at, "wheels", x.wheels(what), m.wheels(what), what); break;
      case 13: same(at, "train", x.train(part), m.train(part), part); break;
      case 14: same(at, "faulty", x.faulty(), m.faulty()); break;
      case 15: same(at, "closest", x.closest(what / 2), m.closest(what / 2), what / 2); break;
      default: same(at, "count", x.count(what), m.count(what), what); break;
    }
    return 1;
  }

  /** Mostly asks for a distance that a shift can bring about. */
  private static void shiftFor(String at, int a, int b) {
    int p = some(1, 9999), q = some(1, 9999);
    long above = x.distance(a, b, 0), below = x.distance(a, b, 1);
    if (above > 0 && random.nextInt(5) != 0) {
      int hundredths = (int) (above * 100 / below) + some(-150, 150) / 2;
      p = Math.min(9999, Math.max(1, hundredths));
      q = 100;
    }
    same(at, "shiftFor", x.shiftFor(a, b, p, q), m.shiftFor(a, b, p, q), a, b, p, q);
  }

  private static int set(String at, int kind) {
    int s = some(5, 99), p = some(5, 99), k = some(1, 8), d = some(0, 2), h = some(0, 2), part = some(0, 1);
    switch (kind) {
      case 17: same(at, "together", x.together(s, p, k), m.together(s, p, k), s, p, k); break;
      case 18: same(at, "most", x.most(s, p), m.most(s, p), s, p); break;
      case 19: same(at, "planets", x.planets(s, p, d, h, part), m.planets(s, p, d, h, part), s, p, d, h, part); break;
      default: searched(at, k); break;
    }
    return 1;
  }

  private static void searched(String at, int k) {
    int a = some(5, 60), b = random.nextInt(6) == 0 ? some(5, 60) : Math.min(60, Math.max(a, 0) + some(0, 9));
    int w = some(1, 20), u = random.nextInt(4) == 0 ? some(1, 99) : Math.min(99, 2 * w + random.nextInt(4 * Math.max(1, Math.min(25, w))));
    int ab = 100 * a + b, uw = 100 * u + w, t = some(0, 200), what = some(0, 3);
    same(at, "searched", x.searched(ab, k, uw, t, what), m.searched(ab, k, uw, t, what), ab, k, uw, t, what);
  }

  private static int rows(String at, int kind) {
    int r = some(0, 2), n = some(-1, 20), i = some(0, 19);
    long v = random.nextInt(3) == 0 ? random.nextLong() : x.of(i, 0);
    switch (kind) {
      case 21: same(at, "row", x.row(r, n), m.row(r, n), r, n); break;
      case 22:
      case 23: same(at, "put", x.put(r, i, v), m.put(r, i, v), r, i); break;
      case 24: same(at, "get", x.get(r, i), m.get(r, i), r, i); break;
      case 25: same(at, "lay", x.lay(r), m.lay(r), r); break;
      case 26: same(at, "judge", x.judge(r), m.judge(r), r); break;
      case 27: same(at, "image", x.image(), m.image()); break;
      default: same(at, "undo", x.undo(), m.undo()); break;
    }
    return 1;
  }

  /** Feeds a text, mostly a good one, sometimes with a byte changed, and reads it, but for now and then. */
  private static int text(String at) {
    StringBuilder text = new StringBuilder();
    int acts = random.nextInt(random.nextInt(4) == 0 ? 12 : 4);
    for (int i = 0; i < acts; i++) {
      text.append(i > 0 ? ";" : "").append(act());
    }
    if (random.nextInt(3) == 0 && text.length() > 0) {
      spoil(text);
    }
    for (int i = 0; i < text.length(); i++) {
      int letter = text.charAt(i);
      same(at, "feed", x.feed(letter), m.feed(letter), letter);
    }
    if (random.nextInt(9) == 0) {
      return text.length();
    }
    same(at + text + " ", "read", x.read(), m.read());
    same(at + text + " ", "count", x.count(2), m.count(2), 2);
    return text.length() + 2;
  }

  private static String act() {
    switch (random.nextInt(5)) {
      case 0: return "w " + teeth();
      case 1: return "s " + wheel() + "," + some(-50, 100);
      case 2: return "p " + some(0, 2);
      case 3: return "t " + wheel() + "," + wheel();
      default: return "x";
    }
  }

  private static void spoil(StringBuilder text) {
    int place = random.nextInt(text.length());
    char letter = " -,;0123456789wsptx~".charAt(random.nextInt(20));
    switch (random.nextInt(4)) {
      case 0: text.setCharAt(place, letter); break;
      case 1: text.insert(place, letter); break;
      case 2: text.deleteCharAt(place); break;
      default: text.setLength(place); break;
    }
  }
}
