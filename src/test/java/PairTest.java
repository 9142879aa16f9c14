/** Promises 7 to 10: two wheels, one against the other. */
public final class PairTest {
  private static final long VOID = PinionBench.VOID, CLASHED = PinionBench.CLASHED;
  private static final int MAX = Integer.MAX_VALUE, MIN = Integer.MIN_VALUE;

  public static void main(String[] args) {
    distance();
    ratio();
    noPairs();
    contact();
    contactToTheLast();
    contactRefused();
    shiftFor();
    shiftForRefused();
    Due.close("PairTest");
  }

  private static void distanceIs(PinionBench x, int one, int other, long above, long below) {
    Due.is("7 distance(" + one + ", " + other + ", 0)", x.distance(one, other, 0), above);
    Due.is("7 distance(" + one + ", " + other + ", 1)", x.distance(one, other, 1), below);
    Due.is("7 distance(" + other + ", " + one + ", 0)", x.distance(other, one, 0), above);
    Due.is("7 distance(" + other + ", " + one + ", 1)", x.distance(other, one, 1), below);
  }

  private static void ratioIs(PinionBench x, int one, int other, long above, long below) {
    Due.is("8 ratio(" + one + ", " + other + ", 0)", x.ratio(one, other, 0), above);
    Due.is("8 ratio(" + one + ", " + other + ", 1)", x.ratio(one, other, 1), below);
  }

  /** Promise 7. */
  private static void distance() {
    PinionBench x = Due.bench(20, 41, -60, 52, 53, -99, 5, 5);
    distanceIs(x, 0, 1, 61, 2);
    distanceIs(x, 2, 0, 20, 1);
    distanceIs(x, 2, 3, 4, 1);
    distanceIs(x, 2, 4, CLASHED, CLASHED);
    distanceIs(x, 5, 6, 47, 1);
    x.shift(0, 33);
    x.shift(1, -8);
    distanceIs(x, 0, 1, 123, 4);
    x.shift(2, 1);
    distanceIs(x, 2, 0, 492, 25);
    x.shift(2, -50);
    x.shift(3, 100);
    distanceIs(x, 2, 3, 5, 2);
    x.shift(6, -50);
    x.shift(7, -50);
    distanceIs(x, 6, 7, 4, 1);
    x.shift(6, 1);
    x.shift(7, 0);
    distanceIs(x, 6, 7, 501, 100);
  }

  /** Promise 8. */
  private static void ratio() {
    PinionBench x = Due.bench(20, 41, -60, 52, 53, 30);
    ratioIs(x, 0, 1, -41, 20);
    ratioIs(x, 1, 0, -20, 41);
    ratioIs(x, 0, 5, -3, 2);
    ratioIs(x, 5, 0, -2, 3);
    ratioIs(x, 0, 2, 3, 1);
    ratioIs(x, 2, 0, 1, 3);
    ratioIs(x, 2, 3, 13, 15);
    ratioIs(x, 2, 4, CLASHED, CLASHED);
    ratioIs(x, 4, 2, CLASHED, CLASHED);
    x.shift(0, 50);
    ratioIs(x, 0, 2, 3, 1);
  }

  /** Promises 7 to 10 and 12: what is no pair at all. */
  private static void noPairs() {
    PinionBench x = Due.bench(20, 53, -60, -24);
    int[][] bad = {{0, 0}, {2, 2}, {2, 3}, {3, 2}, {-1, 0}, {0, -1}, {4, 0}, {0, 4}, {MAX, 0}, {0, MIN}, {16, 17}};
    for (int[] b : bad) {
      String call = "(" + b[0] + ", " + b[1] + ")";
      for (int part = 0; part < 2; part++) {
        Due.is("7 distance" + call, x.distance(b[0], b[1], part), VOID);
        Due.is("8 ratio" + call, x.ratio(b[0], b[1], part), VOID);
        Due.is("9 contact" + call, x.contact(b[0], b[1], part), VOID);
      }
      Due.is("10 shiftFor" + call, x.shiftFor(b[0], b[1], 20, 1), -1000);
      Due.is("12 pair" + call, x.pair(b[0], b[1]), PinionBench.BAD);
    }
    for (int part : new int[] {-1, 2, MAX, MIN}) {
      Due.is("7 distance(0, 1, " + part + ")", x.distance(0, 1, part), VOID);
      Due.is("7 BAD is ahead of CLASHED, part " + part, x.distance(1, 2, part), VOID);
      Due.is("8 ratio(0, 1, " + part + ")", x.ratio(0, 1, part), VOID);
      Due.is("8 BAD is ahead of CLASHED, part " + part, x.ratio(1, 2, part), VOID);
      Due.is("9 contact(0, 1, " + part + ")", x.contact(0, 1, part), VOID);
    }
  }

  private static void contactIs(PinionBench x, int one, int other, long low, long high) {
    Due.is("9 contact(" + one + ", " + other + ", 0)", x.contact(one, other, 0), low);
    Due.is("9 contact(" + one + ", " + other + ", 1)", x.contact(one, other, 1), high);
  }

  /** Promise 9: the numbers come of the Terms, reckoned elsewhere by whole roots. */
  private static void contact() {
    PinionBench x = Due.bench(20, 40, 9, 17, 5, 5, 99, 99, 5);
    int[] shifts = {0, 0, 50, 0, -50, -50, 100, 100, 100};
    for (int i = 0; i < shifts.length; i++) {
      x.shift(i, shifts[i]);
    }
    int[][] pairs = {{0, 1}, {2, 3}, {4, 5}, {6, 7}, {4, 6}};
    long[][] low = {{1919, 1805, 836, 4085, 2460}, {1635, 1619, 800, 3273, 2037}, {1460, 1494, 787, 2773, 1780}};
    long[][] high = {{1920, 1806, 837, 4086, 2462}, {1636, 1621, 801, 3275, 2038}, {1461, 1495, 788, 2774, 1781}};
    for (int p = 0; p < 3; p++) {
      x.pressure(p);
      for (int i = 0; i < pairs.length; i++) {
        contactIs(x, pairs[i][0], pairs[i][1], low[p][i], high[p][i]);
        contactIs(x, pairs[i][1], pairs[i][0], low[p][i], high[p][i]);
      }
    }
  }

  /** Promise 9: pairs that tell each number of the Terms from the next one, and a root that comes out even. */
  private static void contactToTheLast() {
    int[][] due = {
      {35, 89, 80, -17, 1, 2136, 2137}, {6, 16, 65, 91, 0, 2547, 2549}, {65, -12, 55, 9, 2, 1533, 1535},
      {17, -16, 9, 76, 0, 1810, 1811}, {92, 21, 8, -9, 2, 1503, 1504}, {14, 41, 18, 96, 0, 2393, 2394}};
    for (int[] d : due) {
      PinionBench x = Due.bench(d[0], d[2]);
      x.shift(0, d[1]);
      x.shift(1, d[3]);
      x.pressure(d[4]);
      contactIs(x, 0, 1, d[5], d[6]);
    }
  }

  /** Promise 9: a ring has none, whether it clashes or not. */
  private static void contactRefused() {
    PinionBench x = Due.bench(20, -60, 53);
    contactIs(x, 0, 1, VOID, VOID);
    contactIs(x, 1, 0, VOID, VOID);
    contactIs(x, 1, 2, VOID, VOID);
    contactIs(x, 0, 0, VOID, VOID);
  }

  /** Promise 10. */
  private static void shiftFor() {
    PinionBench x = Due.bench(20, 41, -60, 52, 53);
    Due.is("10 to 30", x.shiftFor(0, 1, 30, 1), -50);
    Due.is("10 to 29.99", x.shiftFor(0, 1, 2999, 100), -1001);
    Due.is("10 to 31.5", x.shiftFor(0, 1, 63, 2), 100);
    Due.is("10 to 31.51", x.shiftFor(0, 1, 3151, 100), -1001);
    Due.is("10 not in lowest terms", x.shiftFor(0, 1, 122, 4), 0);
    Due.is("10 no hundredths", x.shiftFor(0, 1, 61, 3), -1001);
    Due.is("10 within, but no hundredths", x.shiftFor(0, 1, 92, 3), -1001);
    x.shift(0, 70);
    Due.is("10 its own shift is no matter", x.shiftFor(0, 1, 61, 2), 0);
    x.shift(1, 10);
    Due.is("10 the other's is", x.shiftFor(0, 1, 61, 2), -10);
    Due.is("10 nothing changed", x.of(0, 1), 70);
    Due.is("10 of a ring", x.shiftFor(2, 0, 20, 1), 70);
    Due.is("10 of a ring's wheel", x.shiftFor(0, 2, 20, 1), 0);
    x.shift(2, 5);
    Due.is("10 of a ring's wheel, the ring shifted", x.shiftFor(0, 2, 501, 25), 1);
    x.shift(2, 100);
    x.shift(0, 0);
    Due.is("10 of a ring's wheel, too far", x.shiftFor(0, 2, 2151, 100), -1001);
    Due.is("10 of a ring's wheel, as far as it goes", x.shiftFor(0, 2, 43, 2), -50);
    Due.is("10 a clash", x.shiftFor(2, 4, 20, 1), -1002);
    Due.is("10 a clash, the other way", x.shiftFor(4, 2, 20, 1), -1002);
    Due.is("10 just no clash", x.shiftFor(2, 3, 4, 1), 0);
    Due.is("10 the greatest", x.shiftFor(0, 1, 9999, 9999), -1001);
    Due.is("10 9999 by 1", x.shiftFor(0, 1, 9999, 1), -1001);
    Due.is("10 1 by 9999", x.shiftFor(0, 1, 1, 9999), -1001);
  }

  /** Promise 10: wrong numbers come ahead of a clash. */
  private static void shiftForRefused() {
    PinionBench x = Due.bench(20, -60, 53);
    for (int bad : new int[] {0, -1, 10000, MAX, MIN}) {
      Due.is("10 p " + bad, x.shiftFor(0, 1, bad, 1), -1000);
      Due.is("10 q " + bad, x.shiftFor(0, 1, 1, bad), -1000);
      Due.is("10 p ahead of the clash " + bad, x.shiftFor(1, 2, bad, 1), -1000);
      Due.is("10 q ahead of the clash " + bad, x.shiftFor(1, 2, 1, bad), -1000);
    }
  }
}
