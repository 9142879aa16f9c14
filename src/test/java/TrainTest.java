/** Promises 12 to 16: the train of pairs. */
public final class TrainTest {
  private static final long VOID = PinionBench.VOID, CLASHED = PinionBench.CLASHED;
  private static final int MAX = Integer.MAX_VALUE, MIN = Integer.MIN_VALUE;

  public static void main(String[] args) {
    emptyTrain();
    pair();
    train();
    longTrain();
    faulty();
    closest();
    changed();
    Due.close("TrainTest");
  }

  private static void emptyTrain() {
    PinionBench x = Due.bench(20, 40);
    Due.is("13 clear()", x.clear(), 0);
    Due.is("15 faulty()", x.faulty(), PinionBench.NOT);
    for (int part = -1; part < 4; part++) {
      Due.is("14 train(" + part + ")", x.train(part), VOID);
      Due.is("16 closest(" + part + ")", x.closest(part), VOID);
    }
  }

  /** Promises 12 and 13; what is BAD of a pair, PairTest holds. */
  private static void pair() {
    PinionBench x = Due.bench(20, 40, -60, -70, 59);
    int[][] pairs = {{0, 1}, {1, 0}, {2, 0}, {0, 2}, {2, 4}, {0, 1}, {0, 1}, {0, 4}, {4, 2}};
    for (int i = 0; i < 9; i++) {
      Due.is("12 pair " + i, x.pair(pairs[i][0], pairs[i][1]), i + 1);
    }
    Due.is("12 a tenth", x.pair(0, 1), PinionBench.FULL);
    Due.is("12 BAD ahead of FULL", x.pair(0, 0), PinionBench.BAD);
    Due.is("12 BAD ahead of FULL, rings", x.pair(2, 3), PinionBench.BAD);
    Due.is("12 BAD ahead of FULL, no wheel", x.pair(0, 5), PinionBench.BAD);
    Due.is("12 count(1)", x.count(1), 9);
    Due.is("13 clear()", x.clear(), 9);
    Due.is("13 count(1)", x.count(1), 0);
    Due.is("13 clear() again", x.clear(), 0);
    Due.is("12 pair behind clear", x.pair(1, 0), 1);
    Due.is("14 train(0) behind clear", x.train(0), -1);
    Due.is("14 train(1) behind clear", x.train(1), 2);
    Due.is("13 the wheels stay", x.count(0), 5);
  }

  private static void trainIs(PinionBench x, String call, long above, long below) {
    Due.is("14 " + call + ", train(0)", x.train(0), above);
    Due.is("14 " + call + ", train(1)", x.train(1), below);
  }

  /** Promise 14. */
  private static void train() {
    PinionBench x = Due.bench(20, 30, 45, -60);
    x.pair(0, 1);
    trainIs(x, "one pair", -3, 2);
    x.pair(1, 2);
    trainIs(x, "two pairs", 9, 4);
    x.pair(0, 3);
    trainIs(x, "a ring driven", 27, 4);
    x.pair(2, 0);
    trainIs(x, "a third minus", -3, 1);
    x.pair(3, 0);
    trainIs(x, "a ring driving", -1, 1);
    for (int bad : new int[] {-1, 2, MAX, MIN}) {
      Due.is("14 train(" + bad + ")", x.train(bad), VOID);
    }
  }

  /** Promise 14: nine pairs of the most teeth come near the greatest long. */
  private static void longTrain() {
    PinionBench x = Due.bench(97, 98);
    long above = -1, below = 1;
    for (int i = 0; i < 9; i++) {
      x.pair(0, 1);
      above *= 98;
      below *= 97;
    }
    trainIs(x, "98 to 97, nine times", above, below);
    PinionBench y = Due.bench(98, 99);
    for (int i = 0; i < 8; i++) {
      y.pair(0, 1);
    }
    trainIs(y, "99 to 98, eight times", 9227446944279201L, 8507630225817856L);
    y.pair(1, 0);
    trainIs(y, "and once back", -93206534790699L, 86812553324672L);
  }

  /** Promises 14 to 16: pairs that clash. */
  private static void faulty() {
    PinionBench x = Due.bench(20, -60, 52, 53);
    x.pair(0, 1);
    x.pair(1, 2);
    Due.is("15 8 teeth more are enough", x.faulty(), PinionBench.NOT);
    Due.is("12 one that clashes", x.pair(3, 1), 3);
    Due.is("12 another", x.pair(1, 3), 4);
    Due.is("12 a good one behind", x.pair(0, 2), 5);
    Due.is("15 faulty()", x.faulty(), 2);
    for (int part = 0; part < 3; part++) {
      Due.is("14 train(" + part + ")", x.train(part), part < 2 ? CLASHED : VOID);
      Due.is("16 closest(" + part + ")", x.closest(part), CLASHED);
    }
    Due.is("16 BAD ahead of CLASHED", x.closest(3), VOID);
    Due.is("14 BAD ahead of CLASHED", x.train(-1), VOID);
    x.clear();
    x.pair(1, 3);
    Due.is("15 the first at once", x.faulty(), 0);
    Due.is("14 the first at once", x.train(0), CLASHED);
    Due.is("16 the first at once", x.closest(0), CLASHED);
  }

  private static void closestIs(PinionBench x, String call, long pair, long above, long below) {
    Due.is("16 " + call + ", closest(0)", x.closest(0), pair);
    Due.is("16 " + call + ", closest(1)", x.closest(1), above);
    Due.is("16 " + call + ", closest(2)", x.closest(2), below);
  }

  /** Promise 16. */
  private static void closest() {
    PinionBench x = Due.bench(20, 40, 21, -60, 30);
    x.pair(0, 1);
    closestIs(x, "one pair", 0, 30, 1);
    x.pair(0, 2);
    closestIs(x, "a nearer one", 1, 41, 2);
    x.pair(2, 0);
    closestIs(x, "one as near", 1, 41, 2);
    x.pair(3, 0);
    closestIs(x, "a ring", 3, 20, 1);
    x.pair(0, 3);
    x.pair(4, 1);
    closestIs(x, "as near, and farther", 3, 20, 1);
    for (int bad : new int[] {-1, 3, MAX, MIN}) {
      Due.is("16 closest(" + bad + ")", x.closest(bad), VOID);
    }
  }

  /** Promise 16: the distances go by the shifts as they are. */
  private static void changed() {
    PinionBench x = Due.bench(20, 40, 20, 40);
    x.pair(0, 1);
    x.pair(2, 3);
    closestIs(x, "alike", 0, 30, 1);
    x.shift(1, 1);
    closestIs(x, "the first is farther", 1, 30, 1);
    x.shift(3, 2);
    closestIs(x, "the second is farther still", 0, 3001, 100);
    x.shift(0, -3);
    closestIs(x, "and now far nearer", 0, 1499, 50);
  }
}
