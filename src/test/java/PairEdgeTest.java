/** Promises 7 to 10, and what the Terms say of pairs: each sentence that names an edge. */
public final class PairEdgeTest {
  private static final long VOID = PinionBench.VOID, CLASHED = PinionBench.CLASHED;
  private static final int BAD = PinionBench.BAD;
  private static final int MAX = Integer.MAX_VALUE, MIN = Integer.MIN_VALUE;

  public static void main(String[] args) {
    notBothRings();
    sameWheel();
    whichWheels();
    whichPart();
    distanceLowestTerms();
    distanceOutwardEnds();
    distanceRingEnds();
    clashEdge();
    clashByTeethAlone();
    clashAll();
    badAheadOfClashed();
    ratioEnds();
    ratioSign();
    ratioLowestTerms();
    asTheyAre();
    contactEnds();
    contactNeverNearNothing();
    contactHoldsWhatIsTrue();
    contactByPressureAsItIs();
    contactRootsComeOutEven();
    contactCut();
    contactOfARing();
    contactWithItself();
    contactWhichEnd();
    shiftForEachShift();
    shiftForEnds();
    shiftForWhichFraction();
    shiftForExactly();
    shiftForOrder();
    Due.close("PairEdgeTest");
  }

  private static void fraction(String call, long above, long below, long dueAbove, long dueBelow) {
    Due.is(call + ", above", above, dueAbove);
    Due.is(call + ", below", below, dueBelow);
  }

  private static void distanceIs(PinionBench x, int one, int other, long above, long below) {
    String call = "distance(" + one + ", " + other + ")";
    fraction(call, x.distance(one, other, 0), x.distance(one, other, 1), above, below);
    call = "distance(" + other + ", " + one + ")";
    fraction(call, x.distance(other, one, 0), x.distance(other, one, 1), above, below);
  }

  private static void ratioIs(PinionBench x, int one, int other, long above, long below) {
    fraction("ratio(" + one + ", " + other + ")", x.ratio(one, other, 0), x.ratio(one, other, 1), above, below);
  }

  private static void contactIs(PinionBench x, int one, int other, long low, long high) {
    fraction("contact(" + one + ", " + other + ")", x.contact(one, other, 0), x.contact(one, other, 1), low, high);
  }

  /** No pair at all, by each of the calls. */
  private static void noPair(PinionBench x, int one, int other) {
    String pair = "(" + one + ", " + other;
    for (int part = 0; part < 2; part++) {
      Due.is("distance" + pair + ", " + part + ")", x.distance(one, other, part), VOID);
      Due.is("ratio" + pair + ", " + part + ")", x.ratio(one, other, part), VOID);
      Due.is("contact" + pair + ", " + part + ")", x.contact(one, other, part), VOID);
    }
    Due.is("shiftFor" + pair + ", 20, 1)", x.shiftFor(one, other, 20, 1), -1000);
    Due.is("pair" + pair + ")", x.pair(one, other), BAD);
    Due.is("count(1)", x.count(1), 0);
  }

  private static void notBothRings() {
    Due.by("PAIR of two WHEELS, not both RINGS");
    PinionBench x = Due.bench(-20, -99, 10, 11);
    noPair(x, 0, 1);
    noPair(x, 1, 0);
    distanceIs(x, 0, 2, 5, 1);
    distanceIs(x, 1, 2, 89, 2);
    distanceIs(x, 2, 3, 21, 2);
  }

  private static void sameWheel() {
    Due.by("VOID: BAD (the same WHEEL, both RINGS, too); CLASHED.");
    PinionBench x = Due.bench(20, -60, 20);
    noPair(x, 0, 0);
    noPair(x, 1, 1);
    // Another wheel of as many teeth is not the same one.
    distanceIs(x, 0, 2, 20, 1);
  }

  private static void whichWheels() {
    Due.by("BAD (-1): no such one, a number out of its range.");
    noPair(new PinionBench(), 0, 0);
    noPair(new PinionBench(), 0, 1);
    noPair(Due.bench(20), 0, 1);
    PinionBench x = Due.bench(20, 40, 60);
    for (int bad : new int[] {MIN, -1, 3, 16, MAX}) {
      noPair(x, bad, 0);
      noPair(x, 2, bad);
      noPair(x, bad, bad);
    }
    distanceIs(x, 0, 2, 40, 1);
    PinionBench full = new PinionBench();
    for (int i = 0; i < 16; i++) {
      full.wheel(20 + i);
    }
    distanceIs(full, 0, 15, 55, 2);
    noPair(full, 0, 16);
  }

  private static void whichPart() {
    Due.by("DISTANCE of a PAIR: above (part 0), below (1).");
    PinionBench x = Due.bench(20, 41, -61);
    distanceIs(x, 0, 1, 61, 2);
    for (int part : new int[] {MIN, -1, 2, MAX}) {
      Due.is("distance(0, 1, " + part + ")", x.distance(0, 1, part), VOID);
      Due.is("distance(0, 2, " + part + ")", x.distance(0, 2, part), VOID);
    }
    Due.by("RATIO of a PAIR, the first driving: likewise. VOID; CLASHED.");
    ratioIs(x, 0, 1, -41, 20);
    for (int part : new int[] {MIN, -1, 2, MAX}) {
      Due.is("ratio(0, 1, " + part + ")", x.ratio(0, 1, part), VOID);
      Due.is("ratio(0, 2, " + part + ")", x.ratio(0, 2, part), VOID);
    }
  }

  private static void distanceLowestTerms() {
    Due.by("DISTANCE (a fraction in lowest terms)");
    int[][] due = {
      {0, 30, 1}, {50, 61, 2}, {25, 121, 4}, {20, 151, 5}, {10, 301, 10}, {5, 601, 20}, {4, 751, 25}, {2, 1501, 50},
      {1, 3001, 100}, {100, 31, 1}, {-50, 59, 2}, {-1, 2999, 100}, {-25, 119, 4}, {75, 123, 4}};
    for (int[] d : due) {
      PinionBench x = Due.bench(20, 40, -80);
      x.shift(1, d[0]);
      distanceIs(x, 0, 1, d[1], d[2]);
      x.shift(2, d[0]);
      distanceIs(x, 0, 2, d[1], d[2]);
    }
  }

  private static void distanceOutwardEnds() {
    Due.by("of two outward (both TEETH together) by 2, and both SHIFTS, together, by 100");
    PinionBench x = Due.bench(5, 5, 99, 99);
    distanceIs(x, 0, 1, 5, 1);
    distanceIs(x, 2, 3, 99, 1);
    for (int wheel = 0; wheel < 4; wheel++) {
      x.shift(wheel, wheel < 2 ? -50 : 100);
    }
    distanceIs(x, 0, 1, 4, 1);
    distanceIs(x, 2, 3, 101, 1);
    distanceIs(x, 0, 2, 105, 2);
  }

  private static void distanceRingEnds() {
    Due.by("of a RING and one outward: (TEETH of the RING without its sign less TEETH) by 2,"
        + " and the RING's SHIFT less the other's by 100.");
    PinionBench x = Due.bench(-20, 12, -99, 5, 91);
    distanceIs(x, 0, 1, 4, 1);
    distanceIs(x, 2, 3, 47, 1);
    distanceIs(x, 2, 4, 4, 1);
    x.shift(0, -50);
    distanceIs(x, 0, 1, 7, 2);
    x.shift(1, 100);
    distanceIs(x, 0, 1, 5, 2);
    x.shift(2, 100);
    distanceIs(x, 2, 3, 48, 1);
    x.shift(3, -50);
    distanceIs(x, 2, 3, 97, 2);
  }

  private static void clashIs(PinionBench x, boolean clashes, long above, long below) {
    distanceIs(x, 0, 1, clashes ? CLASHED : above, clashes ? CLASHED : below);
    Due.is("ratio(0, 1, 0) clashes", x.ratio(0, 1, 0) == CLASHED ? 1 : 0, clashes ? 1 : 0);
    Due.is("ratio(0, 1, 1) clashes", x.ratio(0, 1, 1) == CLASHED ? 1 : 0, clashes ? 1 : 0);
    Due.is("ratio(1, 0, 0) clashes", x.ratio(1, 0, 0) == CLASHED ? 1 : 0, clashes ? 1 : 0);
    Due.is("shiftFor(0, 1) clashes", x.shiftFor(0, 1, 9999, 9999), clashes ? -1002 : -1001);
    Due.is("shiftFor(1, 0) clashes", x.shiftFor(1, 0, 9999, 9999), clashes ? -1002 : -1001);
    x.pair(0, 1);
    Due.is("faulty()", x.faulty(), clashes ? 0 : PinionBench.NOT);
  }

  private static void clashEdge() {
    Due.by("It can't be (CLASH): of a RING: if that is fewer than 8 TEETH more than the other one.");
    for (int ring = 20; ring <= 99; ring++) {
      clashIs(Due.bench(-ring, ring - 8), false, 4, 1);
      clashIs(Due.bench(-ring, ring - 7), true, 0, 0);
      clashIs(Due.bench(ring - 8, -ring), false, 4, 1);
      clashIs(Due.bench(ring - 7, -ring), true, 0, 0);
    }
  }

  private static void clashByTeethAlone() {
    Due.by("of a RING: if that is fewer than 8 TEETH more than the other one.");
    PinionBench near = Due.bench(-60, 52), clash = Due.bench(-60, 53);
    near.shift(0, -50);
    near.shift(1, 100);
    clashIs(near, false, 5, 2);
    clash.shift(0, 100);
    clash.shift(1, -50);
    clashIs(clash, true, 0, 0);
  }

  /** As many teeth as the ring, more than it, far more; and none of it of two outward. */
  private static void clashAll() {
    Due.by("It can't be (CLASH): of a RING");
    clashIs(Due.bench(-60, 60), true, 0, 0);
    clashIs(Due.bench(-60, 61), true, 0, 0);
    clashIs(Due.bench(-20, 99), true, 0, 0);
    clashIs(Due.bench(-99, 99), true, 0, 0);
    clashIs(Due.bench(60, 60), false, 60, 1);
    clashIs(Due.bench(60, 59), false, 119, 2);
  }

  private static void badAheadOfClashed() {
    Due.by("of several the first as the call's words name them");
    PinionBench x = Due.bench(-60, 53);
    for (int part : new int[] {MIN, -1, 2, MAX}) {
      Due.is("distance(0, 1, " + part + ")", x.distance(0, 1, part), VOID);
      Due.is("ratio(1, 0, " + part + ")", x.ratio(1, 0, part), VOID);
      Due.is("contact(0, 1, " + part + ")", x.contact(0, 1, part), VOID);
    }
    for (int part = -1; part < 3; part++) {
      int asked = part;
      Twins.noTrace("distance", Twins::used, y -> y.distance(2, 3, asked), part == 0 || part == 1 ? CLASHED : VOID);
      Twins.noTrace("ratio", Twins::used, y -> y.ratio(3, 2, asked), part == 0 || part == 1 ? CLASHED : VOID);
      Twins.noTrace("contact", Twins::used, y -> y.contact(2, 3, asked), VOID);
    }
  }

  private static void ratioEnds() {
    Due.by("RATIO of the one to the other: TEETH of the other by TEETH of the one");
    PinionBench x = Due.bench(5, 99, -99);
    ratioIs(x, 0, 1, -99, 5);
    ratioIs(x, 1, 0, -5, 99);
    Due.by("RATIO takes TEETH of a RING without their sign.");
    ratioIs(x, 0, 2, 99, 5);
    ratioIs(x, 2, 0, 5, 99);
  }

  private static void ratioSign() {
    Due.by("with a minus of two outward (below 0), none with a RING.");
    PinionBench x = Due.bench(20, 20, -28);
    ratioIs(x, 0, 1, -1, 1);
    ratioIs(x, 1, 0, -1, 1);
    ratioIs(x, 0, 2, 7, 5);
    ratioIs(x, 2, 0, 5, 7);
  }

  private static void ratioLowestTerms() {
    Due.by("(a fraction in lowest terms; above carries the sign)");
    PinionBench x = Due.bench(96, 97, 48, 64, -96, 36);
    ratioIs(x, 0, 1, -97, 96);
    ratioIs(x, 0, 2, -1, 2);
    ratioIs(x, 2, 0, -2, 1);
    ratioIs(x, 0, 3, -2, 3);
    ratioIs(x, 4, 5, 3, 8);
    ratioIs(x, 5, 4, 8, 3);
  }

  private static void asTheyAre() {
    Due.by("RATIO, DISTANCE go by SHIFTS, TEETH as they are");
    PinionBench x = Due.bench(20, 40, -60);
    distanceIs(x, 0, 1, 30, 1);
    x.shift(0, 100);
    distanceIs(x, 0, 1, 31, 1);
    distanceIs(x, 0, 2, 19, 1);
    x.shift(0, -50);
    distanceIs(x, 0, 1, 59, 2);
    distanceIs(x, 0, 2, 41, 2);
    ratioIs(x, 0, 1, -2, 1);
    x.shift(0, 0);
    distanceIs(x, 0, 1, 30, 1);
    Twins.noTrace("distance", Twins::used, y -> y.distance(0, 1, 0), 123);
    Twins.noTrace("ratio", Twins::used, y -> y.ratio(0, 1, 1), 20);
  }

  /** The least and the most that can be, reckoned by another program over all pairs: never near 0. */
  private static void contactEnds() {
    Due.by("CONTACT of a PAIR of two outward, in thousandths, between bounds by whole roots");
    PinionBench x = Due.bench(5, 5, 99, 99);
    for (int wheel = 0; wheel < 4; wheel++) {
      x.shift(wheel, wheel < 2 ? -50 : 100);
    }
    long[][] due = {{836, 837, 4085, 4086}, {800, 801, 3273, 3275}, {787, 788, 2773, 2774}};
    for (int pressure = 0; pressure < 3; pressure++) {
      x.pressure(pressure);
      contactIs(x, 0, 1, due[pressure][0], due[pressure][1]);
      contactIs(x, 1, 0, due[pressure][0], due[pressure][1]);
      contactIs(x, 2, 3, due[pressure][2], due[pressure][3]);
      contactIs(x, 3, 2, due[pressure][2], due[pressure][3]);
    }
  }

  /** What stands in R is never below 0, and LOW never near it: so much is seen of the bounds that nothing reaches. */
  private static void contactNeverNearNothing() {
    Due.by("0 if what stands in it is below 0.");
    Due.by("each 0 at least.");
    for (int teeth = 5; teeth <= 99; teeth++) {
      PinionBench x = Due.bench(5, teeth);
      x.shift(0, -50);
      for (int v : new int[] {-50, 100}) {
        x.shift(1, v);
        long low = x.contact(0, 1, 0), high = x.contact(0, 1, 1);
        Due.is("low of 5 and " + teeth + " shifted " + v, low >= 800 ? 1 : 0, 1);
        Due.is("high of 5 and " + teeth + " shifted " + v, high == low + 1 || high == low + 2 ? 1 : 0, 1);
      }
    }
  }

  /** What two wheels mesh for, by the geometry itself instead of by whole roots, lies between the two. */
  private static void contactHoldsWhatIsTrue() {
    Due.by("CONTACT of a PAIR of two outward, in thousandths, between bounds by whole roots");
    Due.by("R of a WHEEL with z TEETH, SHIFT s: with x being 50 * z + 100 + s, ROOT((4 * x * x - z * z * c) * 2500)");
    Due.by("D is 50 times both TEETH, and both SHIFTS, together; H is ROOT(D * D * SQUARE).");
    int[] squares = {627, 1170, 1786};
    for (int teeth = 5; teeth <= 99; teeth++) {
      PinionBench x = Due.bench(teeth, 104 - teeth, 7);
      for (int turn = 0; turn < 12; turn++) {
        int pressure = turn % 3, one = (teeth * 31 + turn * 47) % 151 - 50, other = (teeth * 17 + turn * 59) % 151 - 50;
        x.pressure(pressure);
        x.shift(0, one);
        x.shift(1, other);
        x.shift(2, other);
        lies(x, 1, mesh(teeth, one, 104 - teeth, other, squares[pressure] / 10000.0));
        lies(x, 2, mesh(teeth, one, 7, other, squares[pressure] / 10000.0));
      }
    }
  }

  /** In parts of a module: the line of action between both tip circles, by the pitch on the base circle. */
  private static double mesh(int z, int s, int z2, int s2, double sineSquare) {
    double cosine = Math.sqrt(1 - sineSquare), apart = (z + z2) / 2.0 + (s + s2) / 100.0;
    return (beyondBase(z, s, cosine) + beyondBase(z2, s2, cosine) - apart * Math.sqrt(sineSquare)) / (Math.PI * cosine);
  }

  private static double beyondBase(int z, int s, double cosine) {
    double tip = z / 2.0 + 1 + s / 100.0, base = z / 2.0 * cosine;
    return Math.sqrt(tip * tip - base * base);
  }

  private static void lies(PinionBench x, int other, double mesh) {
    String call = "contact(0, " + other + ") of what is " + mesh;
    Due.is(call + ", low", x.contact(0, other, 0) <= 1000 * mesh ? 1 : 0, 1);
    Due.is(call + ", high", x.contact(0, other, 1) >= 1000 * mesh ? 1 : 0, 1);
    Due.is(call + ", hardly below it", x.contact(0, other, 0) >= 1000 * mesh - 2 ? 1 : 0, 1);
    Due.is(call + ", hardly above it", x.contact(0, other, 1) <= 1000 * mesh + 2 ? 1 : 0, 1);
  }

  private static void contactByPressureAsItIs() {
    Due.by("c is 10000 less SQUARE, C is ROOT(c * 10000).");
    PinionBench x = Due.bench(20, 40);
    contactIs(x, 0, 1, 1635, 1636);
    x.pressure(0);
    contactIs(x, 0, 1, 1919, 1920);
    x.pressure(2);
    contactIs(x, 0, 1, 1460, 1461);
    x.shift(1, 100);
    x.shift(1, 0);
    x.pressure(1);
    contactIs(x, 0, 1, 1635, 1636);
  }

  /** Pairs with an R that is a root come out even: one less, and the answer would be another. */
  private static void contactRootsComeOutEven() {
    Due.by("ROOT(v) is the greatest whole number whose square is v at most.");
    for (int[] d : EVEN_ROOTS) {
      contactOf(d);
    }
  }

  // pressure, teeth, shift, teeth, shift, LOW, HIGH: the first one's R is a root that comes out even.
  private static final int[][] EVEN_ROOTS = {
    {0, 6, 19, 7, -47, 1198, 1199}, {0, 6, 19, 8, 72, 1725, 1727}, {1, 20, 33, 5, 67, 1747, 1748},
    {1, 20, 33, 8, -27, 1487, 1489}, {2, 8, 18, 6, 76, 1493, 1494}, {2, 8, 18, 11, 22, 1412, 1414}};

  // pressure, teeth, shift, teeth, shift, LOW, HIGH: two of each tell one number of LOW from the next ones.
  private static final int[][] LOWS = {
    {2, 46, -38, 32, -7, 1247, 1249}, {1, 38, -15, 35, 82, 2067, 2068}, {0, 73, -15, 63, -21, 1897, 1898},
    {2, 87, -2, 88, 65, 1955, 1957}, {1, 28, -25, 37, 49, 1808, 1810}, {0, 39, -1, 88, 5, 2207, 2208},
    {2, 10, 49, 50, -45, 1319, 1321}, {1, 22, -18, 33, 45, 1788, 1789}};
  private static final int[][] HIGHS = {
    {0, 61, 76, 62, -30, 2525, 2527}, {2, 84, 38, 58, -22, 1662, 1663}, {1, 62, -16, 82, 93, 2337, 2339},
    {0, 80, -25, 51, -10, 1881, 1882}, {2, 76, 27, 53, 65, 2073, 2074}, {1, 82, -46, 30, 77, 1814, 1816},
    {0, 60, 30, 82, 88, 3226, 3227}, {2, 37, 70, 78, 90, 2411, 2413}, {1, 40, -33, 34, -18, 1361, 1363}};

  private static void contactCut() {
    Due.by("LOW: (both R less H less 1) * 10000000 / (31416 * (C + 1)) (cut)");
    for (int[] d : LOWS) {
      contactOf(d);
    }
    Due.by("HIGH: (both R and 2, less H) * 10000000 / (31415 * C) (cut), and 1");
    Due.by("of HIGH first the quotient is cut, then 1 comes to it, then 0 is the least.");
    for (int[] d : HIGHS) {
      contactOf(d);
    }
  }

  private static void contactOf(int[] d) {
    PinionBench x = Due.bench(d[1], d[3]);
    x.pressure(d[0]);
    x.shift(0, d[2]);
    x.shift(1, d[4]);
    contactIs(x, 0, 1, d[5], d[6]);
    contactIs(x, 1, 0, d[5], d[6]);
  }

  private static void contactOfARing() {
    Due.by("CONTACT: LOW (end 0), HIGH (1). VOID: BAD (a RING, too).");
    PinionBench x = Due.bench(20, -60, 53, -20);
    for (int end = 0; end < 2; end++) {
      Due.is("contact(0, 1, " + end + ")", x.contact(0, 1, end), VOID);
      Due.is("contact(1, 0, " + end + ")", x.contact(1, 0, end), VOID);
      Due.is("contact(1, 2, " + end + "), which clashes", x.contact(1, 2, end), VOID);
      Due.is("contact(1, 3, " + end + "), both rings", x.contact(1, 3, end), VOID);
    }
  }

  private static void contactWithItself() {
    Due.by("contact() of a WHEEL with itself is VOID.");
    PinionBench x = Due.bench(20, -60, 20);
    for (int end = 0; end < 2; end++) {
      Due.is("contact(0, 0, " + end + ")", x.contact(0, 0, end), VOID);
      Due.is("contact(1, 1, " + end + ")", x.contact(1, 1, end), VOID);
    }
    Due.is("contact(0, 2, 0), as many teeth", x.contact(0, 2, 0) > 0 ? 1 : 0, 1);
  }

  private static void contactWhichEnd() {
    Due.by("CONTACT: LOW (end 0), HIGH (1).");
    PinionBench x = Due.bench(20, 40);
    for (int end : new int[] {MIN, -1, 2, MAX}) {
      Due.is("contact(0, 1, " + end + ")", x.contact(0, 1, end), VOID);
      Due.is("contact(0, 2, " + end + ")", x.contact(0, 2, end), VOID);
    }
    Twins.noTrace("contact", Twins::used, y -> y.contact(0, 1, 2), VOID);
    Twins.noTrace("contact", Twins::used, y -> y.contact(0, 1, 0) > 0 ? 1 : 0, 1);
  }

  /** The distance by each shift that may be; told of another shift, it is asked for again. */
  private static void shiftForEachShift() {
    Due.by("SHIFT of a WHEEL (-50 .. 100) by which DISTANCE with another one is p by q (1 .. 9999 each) exactly.");
    for (int v = -50; v <= 100; v++) {
      PinionBench x = Due.bench(20, 41, -60);
      for (int[] pair : new int[][] {{0, 1}, {1, 0}, {2, 0}, {0, 2}}) {
        x.shift(pair[0], v);
        int p = (int) x.distance(pair[0], pair[1], 0), q = (int) x.distance(pair[0], pair[1], 1);
        x.shift(pair[0], 0);
        String call = "shiftFor(" + pair[0] + ", " + pair[1] + ", " + p + ", " + q + ")";
        Due.is(call, x.shiftFor(pair[0], pair[1], p, q), v);
        Due.is(call + " leaves the shift", x.of(pair[0], 1), 0);
      }
    }
  }

  private static void shiftForEnds() {
    Due.by("-1002: CLASH; -1001: there is none.");
    PinionBench x = Due.bench(20, 41, -60);
    Due.is("as little as may be", x.shiftFor(0, 1, 3000, 100), -50);
    Due.is("less than may be", x.shiftFor(0, 1, 2999, 100), -1001);
    Due.is("as much as may be", x.shiftFor(0, 1, 3150, 100), 100);
    Due.is("more than may be", x.shiftFor(0, 1, 3151, 100), -1001);
    Due.is("of the ring, as little as may be", x.shiftFor(2, 0, 1950, 100), -50);
    Due.is("of the ring, less than may be", x.shiftFor(2, 0, 1949, 100), -1001);
    Due.is("of the ring, as much as may be", x.shiftFor(2, 0, 2100, 100), 100);
    Due.is("of the ring, more than may be", x.shiftFor(2, 0, 2101, 100), -1001);
    Due.is("in the ring, as little as may be", x.shiftFor(0, 2, 2050, 100), -50);
    Due.is("in the ring, less than may be", x.shiftFor(0, 2, 2051, 100), -1001);
    Due.is("in the ring, as much as may be", x.shiftFor(0, 2, 1900, 100), 100);
    Due.is("in the ring, more than may be", x.shiftFor(0, 2, 1899, 100), -1001);
    Twins.noTrace("shiftFor, none", Twins::used, y -> y.shiftFor(0, 1, 1, 1), -1001);
    Twins.noTrace("shiftFor, a clash", Twins::used, y -> y.shiftFor(2, 3, 1, 1), -1002);
    Twins.noTrace("shiftFor", Twins::used, y -> y.shiftFor(0, 1, 123, 4), 33);
  }

  private static void shiftForWhichFraction() {
    Due.by("is p by q (1 .. 9999 each) exactly. -1000: BAD (as of distance(), p, q)");
    PinionBench x = Due.bench(99, 99);
    Due.is("p 9999", x.shiftFor(0, 1, 9999, 100), 99);
    Due.is("p 10000, though there is one", x.shiftFor(0, 1, 10000, 100), -1000);
    Due.is("p 1", x.shiftFor(0, 1, 1, 1), -1001);
    Due.is("p 0", x.shiftFor(0, 1, 0, 1), -1000);
    Due.is("q 1", x.shiftFor(0, 1, 99, 1), 0);
    Due.is("q 0", x.shiftFor(0, 1, 99, 0), -1000);
    Due.is("q 9999", x.shiftFor(0, 1, 9999, 9999), -1001);
    Due.is("q 10000", x.shiftFor(0, 1, 9999, 10000), -1000);
    for (int bad : new int[] {MIN, -99, -1, 0, 10000, MAX}) {
      Twins.noTrace("p " + bad, Twins::used, y -> y.shiftFor(0, 1, bad, 1), -1000);
      Twins.noTrace("q " + bad, Twins::used, y -> y.shiftFor(0, 1, 99, bad), -1000);
      Due.is("p and q " + bad, x.shiftFor(0, 1, bad, bad), -1000);
    }
  }

  private static void shiftForExactly() {
    Due.by("by which DISTANCE with another one is p by q (1 .. 9999 each) exactly.");
    PinionBench x = Due.bench(5, 5);
    Due.is("5 as 9995 by 1999", x.shiftFor(0, 1, 9995, 1999), 0);
    Due.is("a trifle above it", x.shiftFor(0, 1, 9996, 1999), -1001);
    Due.is("a trifle below it", x.shiftFor(0, 1, 9994, 1999), -1001);
    Due.is("16 by 3, though 5.33 is within", x.shiftFor(0, 1, 16, 3), -1001);
    Due.is("a half of a hundredth", x.shiftFor(0, 1, 1001, 200), -1001);
    Due.is("a hundredth", x.shiftFor(0, 1, 1002, 200), 1);
  }

  private static void shiftForOrder() {
    Due.by("-1000: BAD (as of distance(), p, q); -1002: CLASH; -1001: there is none.");
    PinionBench x = Due.bench(20, -60, 53, -70);
    Due.is("a clash, none", x.shiftFor(1, 2, 1, 1), -1002);
    Due.is("a clash, p", x.shiftFor(1, 2, 0, 1), -1000);
    Due.is("a clash, q", x.shiftFor(2, 1, 1, 0), -1000);
    Due.is("the same, p", x.shiftFor(0, 0, 0, 1), -1000);
    Due.is("both rings", x.shiftFor(1, 3, 20, 1), -1000);
    Due.is("none", x.shiftFor(0, 2, 1, 1), -1001);
  }
}
