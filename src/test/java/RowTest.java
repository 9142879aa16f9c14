/** Promises 23 to 30: rows, the image, the counts. */
public final class RowTest {
  private static final int BAD = PinionBench.BAD, NOT = PinionBench.NOT;
  private static final long VOID = PinionBench.VOID;
  private static final int MAX = Integer.MAX_VALUE, MIN = Integer.MIN_VALUE;

  public static void main(String[] args) {
    row();
    put();
    noRow();
    lay();
    judge();
    image();
    imageIsACopy();
    count();
    Due.close("RowTest");
  }

  /** Promise 23. */
  private static void row() {
    PinionBench x = new PinionBench();
    Due.is("23 row(0, 20)", x.row(0, 20), 1);
    Due.is("23 row(2, 1)", x.row(2, 1), 1);
    for (int i = 0; i < 20; i++) {
      Due.is("23 get(0, " + i + ")", x.get(0, i), 0);
      x.put(0, i, i + 1);
    }
    Due.is("23 get(1, 0)", x.get(1, 0), VOID);
    Due.is("23 row(0, 21)", x.row(0, 21), BAD);
    Due.is("23 row(0, MAX)", x.row(0, MAX), BAD);
    Due.is("23 row(0, -2)", x.row(0, -2), -14);
    Due.is("23 row(0, MIN)", x.row(0, MIN), -14);
    Due.is("23 nothing changed", x.get(0, 19), 20);
    Due.is("23 row(0, 3)", x.row(0, 3), 1);
    Due.is("23 all 0 again, the first", x.get(0, 0), 0);
    Due.is("23 all 0 again, the last", x.get(0, 2), 0);
    Due.is("23 shorter", x.get(0, 3), VOID);
    Due.is("23 row(0, 20)", x.row(0, 20), 1);
    Due.is("23 all 0 though once more", x.get(0, 19), 0);
    Due.is("23 row(0, 0)", x.row(0, 0), 1);
    Due.is("23 a row of none has no place", x.put(0, 0, 1), -13);
    Due.is("23 row(0, -1)", x.row(0, -1), 1);
    Due.is("23 it is missing", x.put(0, 0, 1), -11);
    Due.is("23 row(1, -1)", x.row(1, -1), 1);
    Due.is("23 the others stay", x.get(2, 0), 0);
  }

  /** Promises 24 and 25. */
  private static void put() {
    PinionBench x = new PinionBench();
    x.row(0, 3);
    x.row(1, 3);
    long[] values = {Long.MAX_VALUE, Long.MIN_VALUE, -7};
    for (int i = 0; i < 3; i++) {
      Due.is("24 put(1, " + i + ")", x.put(1, i, values[i]), 1);
    }
    for (int i = 0; i < 3; i++) {
      Due.is("25 get(1, " + i + ")", x.get(1, i), values[i]);
      Due.is("25 get(0, " + i + ")", x.get(0, i), 0);
    }
    for (int bad : new int[] {-1, 3, 20, MAX, MIN}) {
      Due.is("24 put(1, " + bad + ")", x.put(1, bad, 5), -13);
      Due.is("25 get(1, " + bad + ")", x.get(1, bad), VOID);
      Due.is("24 missing ahead of the place " + bad, x.put(2, bad, 5), -11);
      Due.is("25 missing, get(2, " + bad + ")", x.get(2, bad), VOID);
    }
  }

  /** Promises 23 to 27: no such row, or it is missing. */
  private static void noRow() {
    PinionBench x = Due.bench(20);
    for (int bad : new int[] {-1, 3, MAX, MIN}) {
      for (int n : new int[] {-2, -1, 0, 20, 21}) {
        Due.is("23 row(" + bad + ", " + n + ")", x.row(bad, n), BAD);
      }
      Due.is("24 put(" + bad + ")", x.put(bad, 0, 5), BAD);
      Due.is("25 get(" + bad + ")", x.get(bad, 0), VOID);
      Due.is("26 lay(" + bad + ")", x.lay(bad), BAD);
      Due.is("27 judge(" + bad + ")", x.judge(bad), BAD);
    }
    for (int r = 0; r < 3; r++) {
      Due.is("24 put(" + r + ")", x.put(r, 0, 5), -11);
      Due.is("26 lay(" + r + ")", x.lay(r), -11);
      Due.is("27 judge(" + r + ")", x.judge(r), -11);
    }
  }

  /** Promise 26. */
  private static void lay() {
    PinionBench x = Due.bench(20, -60, 5);
    x.row(0, 2);
    x.row(1, 5);
    x.row(2, 0);
    x.put(1, 2, 77);
    x.put(1, 3, 88);
    Due.is("26 lay(0)", x.lay(0), 2);
    Due.is("26 lay(1)", x.lay(1), 3);
    Due.is("26 lay(2)", x.lay(2), 0);
    long[] due = {20, -60, 5, 88, 0};
    for (int i = 0; i < 5; i++) {
      Due.is("26 get(1, " + i + ")", x.get(1, i), due[i]);
      Due.is("26 get(0, " + i + ")", x.get(0, i), i < 2 ? due[i] : VOID);
    }
    for (int i = 0; i < 3; i++) {
      Due.is("26 of(" + i + ", 0)", x.of(i, 0), due[i]);
    }
    PinionBench y = new PinionBench();
    y.row(0, 20);
    Due.is("26 no wheels", y.lay(0), 0);
    for (int i = 0; i < 16; i++) {
      y.wheel(50 + i);
    }
    Due.is("26 all wheels", y.lay(0), 16);
    Due.is("26 the last of them", y.get(0, 15), 65);
    Due.is("26 behind it", y.get(0, 16), 0);
  }

  /** Promise 27. */
  private static void judge() {
    PinionBench x = Due.bench(20, -60, 5);
    x.row(0, 0);
    Due.is("27 a row of none", x.judge(0), NOT);
    x.row(0, 3);
    Due.is("27 all 0", x.judge(0), 0);
    x.put(0, 0, 20);
    Due.is("27 one told", x.judge(0), 1);
    x.put(0, 1, 60);
    Due.is("27 without its sign", x.judge(0), 1);
    x.put(0, 1, -60);
    x.put(0, 2, 5 + (1L << 32));
    Due.is("27 only as an int", x.judge(0), 2);
    x.put(0, 2, 5);
    Due.is("27 all told", x.judge(0), NOT);
    x.row(1, 2);
    x.lay(1);
    Due.is("27 fewer than wheels", x.judge(1), NOT);
    x.row(1, 4);
    x.lay(1);
    Due.is("27 more than wheels", x.judge(1), 3);
    PinionBench y = new PinionBench();
    y.row(2, 1);
    Due.is("27 no wheels", y.judge(2), 0);
  }

  /** Promises 28 and 29. */
  private static void image() {
    PinionBench x = new PinionBench();
    Due.is("29 undo() without an image", x.undo(), PinionBench.STATE);
    x.wheel(20);
    Due.is("29 nothing changed", x.count(0), 1);
    PinionBench y = new PinionBench();
    Due.is("28 image() of none", y.image(), 0);
    y.wheel(20);
    Due.is("29 undo() to none", y.undo(), 0);
    Due.is("29 count(0)", y.count(0), 0);
    Due.is("29 the image stays", y.undo(), 0);
  }

  /** Promises 28 and 29: what comes later does not reach the image, rows and tape are not in it. */
  private static void imageIsACopy() {
    PinionBench x = Due.bench(20, 40, -60);
    Due.read(x, "s 1,30;p 0;t 0,1;t 1,2");
    Due.is("28 image()", x.image(), 3);
    for (int turn = 0; turn < 2; turn++) {
      Due.read(x, "w 30;s 1,2;s 0,3;p 2;x;t 2,0");
      x.feed('w');
      x.row(turn, 1);
      x.put(turn, 0, 9);
      Due.is("29 undo()", x.undo(), 3);
      Due.is("29 count(0)", x.count(0), 3);
      Due.is("29 count(1)", x.count(1), 2);
      Due.is("29 count(2)", x.count(2), 1);
      Due.is("29 count(3)", x.count(3), 0);
      Due.is("29 of(0, 1)", x.of(0, 1), 0);
      Due.is("29 of(1, 1)", x.of(1, 1), 30);
      Due.is("29 of(2, 0)", x.of(2, 0), -60);
      Due.is("29 train(0)", x.train(0), -3);
      Due.is("29 closest(0)", x.closest(0), 1);
      Due.is("29 the rows stay", x.get(turn, 0), 9);
      Due.is("29 the tape is read", x.read(), -101);
    }
    x.wheel(70);
    Due.is("28 a later image", x.image(), 4);
    x.wheel(80);
    Due.is("29 undo() to it", x.undo(), 4);
    Due.is("29 of(3, 0)", x.of(3, 0), 70);
  }

  /** Promise 30. */
  private static void count() {
    PinionBench x = Due.bench(20, 40, -60, 5);
    x.pair(0, 1);
    x.pair(1, 0);
    x.feed('x');
    x.feed('x');
    x.feed('x');
    x.pressure(2);
    int[] due = {4, 2, 3, 2, 65};
    for (int what = 0; what < 5; what++) {
      Due.is("30 count(" + what + ")", x.count(what), due[what]);
    }
    for (int bad : new int[] {-1, 5, MAX, MIN}) {
      Due.is("30 count(" + bad + ")", x.count(bad), BAD);
    }
    Due.is("30 only rings", Due.bench(-60, -20).count(4), 0);
  }
}
