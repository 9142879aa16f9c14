import java.math.BigInteger;

/** Promises 12 to 16, and what the Terms say of the train: each sentence that names an edge. */
public final class TrainEdgeTest {
  private static final long VOID = PinionBench.VOID, CLASHED = PinionBench.CLASHED;
  private static final int BAD = PinionBench.BAD, FULL = PinionBench.FULL, NOT = PinionBench.NOT;
  private static final int MAX = Integer.MAX_VALUE, MIN = Integer.MIN_VALUE;

  public static void main(String[] args) {
    ninePairs();
    badAheadOfFull();
    clashingPairsCome();
    sameWheelComesNot();
    clearEmpties();
    trainOfNone();
    trainWhichPart();
    trainLowestTerms();
    trainSign();
    trainEnds();
    trainOrder();
    anyWheelFollows();
    faultyFirst();
    faultyOn();
    closestOfNone();
    closestWhat();
    closestOfLike();
    closestLowestTerms();
    closestPlaces();
    closestAsTheyAre();
    closestOrder();
    pairsOfAWheel();
    pairOnce();
    Due.close("TrainEdgeTest");
  }

  private static void ninePairs() {
    Due.by("A TRAIN: PAIRS told one after the other (9 at most)");
    PinionBench x = Due.bench(20, 40);
    Due.is("count(1) of none", x.count(1), 0);
    for (int i = 1; i <= 9; i++) {
      Due.is("pair " + i, x.pair(0, 1), i);
      Due.is("count(1)", x.count(1), i);
    }
    Due.is("the tenth", x.pair(0, 1), FULL);
    Due.is("count(1)", x.count(1), 9);
    Due.is("train(0) of nine", x.train(0), -512);
    Twins.noTrace("the tenth", Twins::full, y -> y.pair(0, 1), FULL);
  }

  private static void badAheadOfFull() {
    Due.by("A PAIR comes to THE TRAIN: how many it has. BAD (as of distance()); FULL.");
    int[][] bad = {{0, 0}, {3, 3}, {3, 7}, {7, 3}, {-1, 0}, {0, -1}, {0, 16}, {16, 0}, {MAX, 0}, {0, MIN}};
    for (int[] b : bad) {
      Twins.noTrace("pair(" + b[0] + ", " + b[1] + ") of 9", Twins::full, x -> x.pair(b[0], b[1]), BAD);
    }
    int[][] bads = {{0, 0}, {2, 2}, {2, 4}, {4, 2}, {-1, 0}, {0, -1}, {0, 6}, {6, 0}, {MIN, 0}, {0, MAX}};
    for (int[] b : bads) {
      Twins.noTrace("pair(" + b[0] + ", " + b[1] + ") of 3", Twins::used, x -> x.pair(b[0], b[1]), BAD);
    }
    Due.is("no wheels", new PinionBench().pair(0, 1), BAD);
    Due.is("one wheel", Due.bench(20).pair(0, 1), BAD);
    Due.is("two wheels", Due.bench(20, 20).pair(0, 1), 1);
    Due.is("a pair that clashes, of 9", full(-60, 53).pair(0, 1), FULL);
  }

  /** Two wheels, nine pairs of them. */
  private static PinionBench full(int one, int other) {
    PinionBench x = Due.bench(one, other);
    for (int i = 1; i <= 9; i++) {
      Due.is("pair " + i, x.pair(0, 1), i);
    }
    return x;
  }

  private static void clashingPairsCome() {
    Due.by("PAIRS that CLASH may come to THE TRAIN (it is FAULTY then)");
    PinionBench x = Due.bench(-60, 53, 52);
    Due.is("8 teeth fewer", x.pair(0, 2), 1);
    Due.is("faulty()", x.faulty(), NOT);
    Due.is("7 teeth fewer", x.pair(0, 1), 2);
    Due.is("faulty()", x.faulty(), 1);
    Due.is("the other way about", x.pair(1, 0), 3);
    Due.is("faulty()", x.faulty(), 1);
    Due.is("count(1)", x.count(1), 3);
  }

  private static void sameWheelComesNot() {
    Due.by("a WHEEL that is both times in one PAIR can't be");
    PinionBench x = Due.bench(20, 20, -60);
    Due.is("pair(0, 0)", x.pair(0, 0), BAD);
    Due.is("pair(2, 2)", x.pair(2, 2), BAD);
    Due.is("count(1)", x.count(1), 0);
    Due.is("pair(0, 1), as many teeth", x.pair(0, 1), 1);
  }

  private static void clearEmpties() {
    Due.by("THE TRAIN is empty: how many PAIRS it had.");
    Due.is("a new object", new PinionBench().clear(), 0);
    for (int n = 0; n <= 9; n++) {
      PinionBench x = Due.bench(20, 40, -60, 53);
      for (int i = 0; i < n; i++) {
        x.pair(i % 2 == 0 ? 0 : 2, i % 2 == 0 ? 1 : 3);
      }
      Due.is("clear() of " + n, x.clear(), n);
      Due.is("count(1)", x.count(1), 0);
      Due.is("train(0)", x.train(0), VOID);
      Due.is("faulty()", x.faulty(), NOT);
      Due.is("closest(0)", x.closest(0), VOID);
      Due.is("of(0, 5)", x.of(0, 5), 0);
      Due.is("count(0)", x.count(0), 4);
      Due.is("clear() again", x.clear(), 0);
      Due.is("and one comes", x.pair(0, 1), 1);
    }
    PinionBench x = full(20, 40);
    x.clear();
    for (int i = 1; i <= 9; i++) {
      Due.is("nine come again, pair " + i, x.pair(1, 0), i);
    }
    Due.is("the tenth", x.pair(1, 0), FULL);
  }

  private static void trainIs(PinionBench x, String call, long above, long below) {
    Due.is(call + ", train(0)", x.train(0), above);
    Due.is(call + ", train(1)", x.train(1), below);
  }

  private static void trainOfNone() {
    Due.by("VOID: BAD, there are no PAIRS; CLASHED: FAULTY.");
    trainIs(new PinionBench(), "a new object", VOID, VOID);
    PinionBench x = Due.bench(20, 40);
    trainIs(x, "no pairs", VOID, VOID);
    x.pair(0, 1);
    trainIs(x, "one pair", -2, 1);
  }

  private static void trainWhichPart() {
    Due.by("RATIO of THE TRAIN: part 0 above, 1 below.");
    PinionBench x = Due.bench(20, 30);
    x.pair(0, 1);
    trainIs(x, "one pair", -3, 2);
    for (int part : new int[] {MIN, -1, 2, MAX}) {
      Due.is("train(" + part + ")", x.train(part), VOID);
    }
    Twins.noTrace("train(2)", Twins::full, y -> y.train(2), VOID);
    Twins.noTrace("train(0)", Twins::used, y -> y.train(0), -1);
  }

  private static void trainLowestTerms() {
    Due.by("RATIO of it: all RATIOS, one times the other (a fraction in lowest terms; above carries the sign).");
    PinionBench x = Due.bench(20, 30, 45, -60);
    x.pair(0, 1);
    trainIs(x, "3 by 2", -3, 2);
    x.pair(1, 0);
    trainIs(x, "and back", 1, 1);
    x.pair(1, 2);
    trainIs(x, "and 3 by 2", -3, 2);
    x.pair(2, 3);
    trainIs(x, "and 4 by 3", -2, 1);
    x.pair(3, 0);
    trainIs(x, "and 1 by 3", -2, 3);
    x.pair(0, 1);
    trainIs(x, "and 3 by 2", 1, 1);
  }

  private static void trainSign() {
    Due.by("above carries the sign");
    PinionBench outward = Due.bench(20, 20), ring = Due.bench(20, -40);
    for (int i = 1; i <= 9; i++) {
      outward.pair(i % 2, 1 - i % 2);
      trainIs(outward, i + " outward", i % 2 == 0 ? 1 : -1, 1);
      ring.pair(i % 2, 1 - i % 2);
      trainIs(ring, i + " with a ring", 1, i % 2 == 0 ? 1 : 2);
    }
  }

  /** The most that can stand above and below the line. */
  private static void trainEnds() {
    Due.by("(a fraction in lowest terms; above carries the sign)");
    long most = BigInteger.valueOf(99).pow(9).longValueExact(), least = BigInteger.valueOf(5).pow(9).longValueExact();
    trainIs(full(5, 99), "99 by 5, nine times", -most, least);
    trainIs(full(99, 5), "5 by 99, nine times", -least, most);
    trainIs(full(5, -99), "99 by 5 with a ring, nine times", most, least);
    long next = BigInteger.valueOf(98).pow(9).longValueExact();
    trainIs(full(98, 99), "99 by 98, nine times", -most, next);
    trainIs(full(99, 99), "99 by 99, nine times", -1, 1);
  }

  private static void trainOrder() {
    Due.by("of several the first as the call's words name them");
    PinionBench x = Due.bench(-60, 53);
    trainIs(x, "no pairs", VOID, VOID);
    x.pair(0, 1);
    trainIs(x, "a clash", CLASHED, CLASHED);
    Due.is("a clash, train(2)", x.train(2), VOID);
    Due.is("a clash, train(-1)", x.train(-1), VOID);
    x.clear();
    trainIs(x, "no pairs again", VOID, VOID);
  }

  /** Of nine pairs one clashes, at each place, alone and with another behind it. */
  /** What is on the shaft may be another wheel, the same one (between two), or the one that drove. */
  private static void anyWheelFollows() {
    Due.by("the first WHEEL drives the second; the next PAIR's first one sits on the same shaft as the second of the one ahead.");
    PinionBench x = Due.bench(20, 50, 15, 45, -90);
    Due.is("pair(0, 1)", x.pair(0, 1), 1);
    trainIs(x, "one pair", -5, 2);
    Due.is("pair(2, 3), other wheels", x.pair(2, 3), 2);
    trainIs(x, "two pairs", 15, 2);
    Due.is("pair(3, 2), the same wheel between", x.pair(3, 2), 3);
    trainIs(x, "three pairs", -5, 2);
    Due.is("pair(3, 4), into a ring", x.pair(3, 4), 4);
    trainIs(x, "four pairs", -5, 1);
    Due.is("pair(0, 1), as at first", x.pair(0, 1), 5);
    trainIs(x, "five pairs", 25, 2);
  }

  private static void faultyFirst() {
    Due.by("The first PAIR from which THE TRAIN is FAULTY; NOT.");
    Due.is("a new object", new PinionBench().faulty(), NOT);
    for (int at = 0; at < 9; at++) {
      for (int second = at + 1; second <= 9; second++) {
        PinionBench x = Due.bench(-60, 53, 52);
        for (int i = 0; i < 9; i++) {
          Due.is("faulty() of " + i, x.faulty(), i > at ? at : NOT);
          x.pair(0, i == at || i == second ? 1 : 2);
        }
        Due.is("faulty() from " + at, x.faulty(), at);
        trainIs(x, "faulty from " + at, CLASHED, CLASHED);
      }
    }
    PinionBench good = full(-60, 52);
    Due.is("nine good ones", good.faulty(), NOT);
  }

  private static void faultyOn() {
    Due.by("It is FAULTY from the first PAIR on that CLASHES.");
    PinionBench x = Due.bench(-60, 53, 20);
    x.pair(2, 1);
    x.pair(1, 0);
    for (int i = 0; i < 7; i++) {
      Due.is("faulty()", x.faulty(), 1);
      trainIs(x, "faulty", CLASHED, CLASHED);
      Due.is("closest(0)", x.closest(0), CLASHED);
      x.pair(0, 2);
    }
    Due.is("a good one ahead is no matter", x.faulty(), 1);
  }

  private static void closestIs(PinionBench x, String call, long pair, long above, long below) {
    Due.is(call + ", closest(0)", x.closest(0), pair);
    Due.is(call + ", closest(1)", x.closest(1), above);
    Due.is(call + ", closest(2)", x.closest(2), below);
  }

  private static void closestOfNone() {
    Due.by("VOID: BAD, there are none; CLASHED: FAULTY.");
    closestIs(new PinionBench(), "a new object", VOID, VOID, VOID);
    PinionBench x = Due.bench(20, 40);
    closestIs(x, "no pairs", VOID, VOID, VOID);
    x.pair(0, 1);
    closestIs(x, "one pair", 0, 30, 1);
  }

  private static void closestWhat() {
    Due.by("(what 0 the PAIR, of several the first; 1 above, 2 below the line).");
    PinionBench x = Due.bench(20, 41);
    x.pair(0, 1);
    closestIs(x, "one pair", 0, 61, 2);
    for (int what : new int[] {MIN, -1, 3, MAX}) {
      Due.is("closest(" + what + ")", x.closest(what), VOID);
    }
    Twins.noTrace("closest(3)", Twins::full, y -> y.closest(3), VOID);
    Twins.noTrace("closest(0)", Twins::used, y -> y.closest(0), 2);
  }

  private static void closestOfLike() {
    Due.by("closest(): of like DISTANCES the first PAIR, DISTANCE in lowest terms.");
    PinionBench x = Due.bench(20, 40, 30, -80);
    x.pair(2, 1);
    closestIs(x, "35", 0, 35, 1);
    x.pair(0, 1);
    x.pair(1, 0);
    closestIs(x, "30 twice", 1, 30, 1);
    x.pair(0, 3);
    closestIs(x, "and 30 with a ring", 1, 30, 1);
    x.shift(2, 100);
    x.shift(0, 1);
    // 30 and a hundredth outward, a hundredth less with the ring.
    closestIs(x, "the ring is nearer", 3, 2999, 100);
    x.shift(0, -1);
    closestIs(x, "the two outward are", 1, 2999, 100);
    closestIs(full(20, 40), "nine alike", 0, 30, 1);
  }

  private static void closestLowestTerms() {
    Due.by("DISTANCE in lowest terms.");
    int[][] due = {{0, 30, 1}, {50, 61, 2}, {25, 121, 4}, {20, 151, 5}, {4, 751, 25}, {-50, 59, 2}, {100, 31, 1}};
    for (int[] d : due) {
      PinionBench x = Due.bench(20, 40);
      x.pair(0, 1);
      x.shift(0, d[0]);
      closestIs(x, "shifted " + d[0], 0, d[1], d[2]);
    }
  }

  /** The nearest one at each of the nine places. */
  private static void closestPlaces() {
    Due.by("The least DISTANCE of all PAIRS of THE TRAIN");
    for (int at = 0; at < 9; at++) {
      PinionBench x = Due.bench(20, 40, 39);
      for (int i = 0; i < 9; i++) {
        x.pair(0, i == at ? 2 : 1);
      }
      closestIs(x, "at " + at, at, 59, 2);
    }
  }

  private static void closestAsTheyAre() {
    Due.by("RATIO, DISTANCE go by SHIFTS, TEETH as they are");
    PinionBench x = Due.bench(20, 40, 20, 40);
    x.pair(0, 1);
    x.pair(2, 3);
    x.shift(2, -1);
    closestIs(x, "the second", 1, 2999, 100);
    x.shift(2, 0);
    closestIs(x, "the first again", 0, 30, 1);
    trainIs(x, "shifts are no matter", 4, 1);
  }

  private static void closestOrder() {
    Due.by("VOID: BAD, there are none; CLASHED: FAULTY.");
    PinionBench x = Due.bench(20, 30, -60, 53);
    x.pair(0, 1);
    x.pair(2, 3);
    closestIs(x, "faulty behind the nearest", CLASHED, CLASHED, CLASHED);
    Due.is("faulty, closest(3)", x.closest(3), VOID);
    Due.is("faulty, closest(-1)", x.closest(-1), VOID);
    x.clear();
    closestIs(x, "none", VOID, VOID, VOID);
    x.pair(2, 3);
    closestIs(x, "faulty from the first", CLASHED, CLASHED, CLASHED);
  }

  private static void pairsOfAWheel() {
    Due.by("in how many PAIRS of THE TRAIN it is (5).");
    PinionBench x = Due.bench(20, 40, 30);
    for (int i = 0; i < 9; i++) {
      for (int wheel = 0; wheel < 3; wheel++) {
        Due.is(i + " pairs, of(" + wheel + ", 5)", x.of(wheel, 5), wheel == 2 ? 0 : i);
      }
      x.pair(i % 2, 1 - i % 2);
    }
    Due.is("all nine, of(0, 5)", x.of(0, 5), 9);
    x.pair(0, 2);
    Due.is("the tenth is none, of(2, 5)", x.of(2, 5), 0);
  }

  private static void pairOnce() {
    Due.by("of() 5 counts a PAIR once.");
    PinionBench x = Due.bench(20, 40, -80);
    x.pair(0, 1);
    x.pair(1, 0);
    x.pair(0, 1);
    x.pair(2, 0);
    Due.is("of(0, 5)", x.of(0, 5), 4);
    Due.is("of(1, 5)", x.of(1, 5), 3);
    Due.is("of(2, 5)", x.of(2, 5), 1);
  }
}
