/** Promises 23 to 27, and what the Terms say of rows: each sentence that names an edge. */
public final class RowEdgeTest {
  private static final long VOID = PinionBench.VOID;
  private static final int BAD = PinionBench.BAD, NOT = PinionBench.NOT;
  private static final int MAX = Integer.MAX_VALUE, MIN = Integer.MIN_VALUE;

  public static void main(String[] args) {
    threeRows();
    missingAtFirst();
    sizes();
    sizeRefused();
    allNothing();
    missingAgain();
    places();
    placesOfNone();
    longs();
    putOrder();
    getVoid();
    layAsManyAsOfBoth();
    layLeavesTheRest();
    layRefused();
    judgeFirst();
    judgeNoWheel();
    judgeNone();
    judgeWholeLongs();
    judgeRefused();
    Due.close("RowEdgeTest");
  }

  private static void threeRows() {
    Due.by("ROWS 0 .. 2 are missing (at first), or hold 0 .. 20 longs.");
    PinionBench x = Due.bench(20);
    for (int r = 0; r < 3; r++) {
      Due.is("row(" + r + ", 1)", x.row(r, 1), 1);
      Due.is("put(" + r + ", 0)", x.put(r, 0, 7 + r), 1);
      Due.is("judge(" + r + ")", x.judge(r), 0);
    }
    for (int r = 0; r < 3; r++) {
      Due.is("get(" + r + ", 0)", x.get(r, 0), 7 + r);
      Due.is("lay(" + r + ")", x.lay(r), 1);
    }
    for (int r : new int[] {MIN, -1, 3, MAX}) {
      Twins.noTrace("row(" + r + ", 1)", Twins::used, y -> y.row(r, 1), BAD);
      Twins.noTrace("put(" + r + ", 0, 1)", Twins::used, y -> y.put(r, 0, 1), BAD);
      Twins.noTrace("get(" + r + ", 0)", Twins::used, y -> y.get(r, 0), VOID);
      Twins.noTrace("lay(" + r + ")", Twins::used, y -> y.lay(r), BAD);
      Twins.noTrace("judge(" + r + ")", Twins::used, y -> y.judge(r), BAD);
    }
  }

  private static void missingAtFirst() {
    Due.by("Of ROWS: -11 it is missing, -13 a place outside, -14 a size below 0.");
    for (int r = 0; r < 3; r++) {
      int asked = r;
      Twins.noTrace("put", Twins::nothing, x -> x.put(asked, 0, 1), -11);
      Twins.noTrace("get", Twins::nothing, x -> x.get(asked, 0), VOID);
      Twins.noTrace("lay", Twins::nothing, x -> x.lay(asked), -11);
      Twins.noTrace("judge", Twins::nothing, x -> x.judge(asked), -11);
    }
  }

  private static void sizes() {
    Due.by("ROW r has n longs, all 0; or (n -1) is missing: 1.");
    for (int n = -1; n <= 20; n++) {
      PinionBench x = new PinionBench();
      Due.is("row(1, " + n + ")", x.row(1, n), 1);
      for (int i = -1; i <= 21; i++) {
        boolean has = i >= 0 && i < n;
        Due.is("row of " + n + ", get(1, " + i + ")", x.get(1, i), has ? 0 : VOID);
        Due.is("row of " + n + ", put(1, " + i + ")", x.put(1, i, i), n == -1 ? -11 : has ? 1 : -13);
      }
      Due.is("the others are missing", x.put(0, 0, 1), -11);
      Due.is("the others are missing", x.put(2, 0, 1), -11);
    }
  }

  private static void sizeRefused() {
    Due.by("BAD: r, n above 20; -14: n below -1.");
    for (int n : new int[] {MIN, -20, -3, -2, 21, 22, 100, MAX}) {
      int due = n > 20 ? BAD : -14;
      for (int r = 0; r < 3; r++) {
        int asked = r;
        Twins.noTrace("row(" + r + ", " + n + ")", Twins::used, x -> x.row(asked, n), due);
      }
      Twins.noTrace("row(0, " + n + ") of a full one", Twins::full, x -> x.row(0, n), due);
      Twins.noTrace("row(0, " + n + ") of a missing one", Twins::nothing, x -> x.row(0, n), due);
      Due.is("row(3, " + n + ")", new PinionBench().row(3, n), BAD);
      Due.is("row(-1, " + n + ")", new PinionBench().row(-1, n), BAD);
    }
  }

  private static void allNothing() {
    Due.by("ROW r has n longs, all 0");
    PinionBench x = new PinionBench();
    for (int n : new int[] {20, 20, 3, 20, 1, 5}) {
      Due.is("row(2, " + n + ")", x.row(2, n), 1);
      for (int i = 0; i < n; i++) {
        Due.is("row of " + n + ", get(2, " + i + ")", x.get(2, i), 0);
        Due.is("put(2, " + i + ")", x.put(2, i, -1), 1);
      }
    }
  }

  private static void missingAgain() {
    Due.by("or (n -1) is missing: 1.");
    PinionBench x = Due.bench(20);
    Due.is("row(0, -1) of a missing one", x.row(0, -1), 1);
    Due.is("row(0, 2)", x.row(0, 2), 1);
    x.put(0, 1, 9);
    Due.is("row(0, -1)", x.row(0, -1), 1);
    Due.is("put", x.put(0, 1, 9), -11);
    Due.is("get", x.get(0, 1), VOID);
    Due.is("lay", x.lay(0), -11);
    Due.is("judge", x.judge(0), -11);
    Due.is("row(0, 2)", x.row(0, 2), 1);
    Due.is("what was there is gone", x.get(0, 1), 0);
  }

  private static void places() {
    Due.by("Place i of a ROW becomes v: 1. BAD; -11; -13.");
    for (int n : new int[] {1, 2, 19, 20}) {
      PinionBench x = new PinionBench();
      x.row(0, n);
      Due.is("the first of " + n, x.put(0, 0, 5), 1);
      Due.is("the last of " + n, x.put(0, n - 1, 6), 1);
      Due.is("get the first of " + n, x.get(0, 0), n == 1 ? 6 : 5);
      Due.is("get the last of " + n, x.get(0, n - 1), 6);
      for (int bad : new int[] {MIN, -1, n, 20, MAX}) {
        Due.is("put(0, " + bad + ") of " + n, x.put(0, bad, 7), -13);
        Due.is("get(0, " + bad + ") of " + n, x.get(0, bad), VOID);
      }
      Due.is("the first is as it was", x.get(0, 0), n == 1 ? 6 : 5);
      Due.is("the last is as it was", x.get(0, n - 1), 6);
    }
    Twins.noTrace("put(0, 3)", Twins::used, x -> x.put(0, 3, 1), -13);
    Twins.noTrace("put(0, -1)", Twins::used, x -> x.put(0, -1, 1), -13);
  }

  private static void placesOfNone() {
    Due.by("or hold 0 .. 20 longs.");
    for (int i : new int[] {MIN, -1, 0, 1, MAX}) {
      Twins.noTrace("put(2, " + i + ") of none", Twins::used, x -> x.put(2, i, 1), -13);
      Twins.noTrace("get(2, " + i + ") of none", Twins::used, x -> x.get(2, i), VOID);
    }
    PinionBench x = Due.bench(20);
    Due.is("row(0, 0)", x.row(0, 0), 1);
    Due.is("lay(0)", x.lay(0), 0);
    Due.is("judge(0)", x.judge(0), NOT);
  }

  private static void longs() {
    Due.by("Place i of a ROW becomes v: 1.");
    PinionBench x = new PinionBench();
    x.row(0, 1);
    for (long v : new long[] {Long.MIN_VALUE, Long.MIN_VALUE + 1, 1L + MAX, -1L + MIN, -1, 0, 1, Long.MAX_VALUE}) {
      Due.is("put(0, 0, " + v + ")", x.put(0, 0, v), 1);
      Due.is("get(0, 0)", x.get(0, 0), v);
    }
  }

  private static void putOrder() {
    Due.by("BAD; -11; -13.");
    PinionBench x = new PinionBench();
    x.row(0, 2);
    for (int i : new int[] {MIN, -1, 2, MAX}) {
      Due.is("no such row, put(3, " + i + ")", x.put(3, i, 1), BAD);
      Due.is("no such row, put(-1, " + i + ")", x.put(-1, i, 1), BAD);
      Due.is("missing, put(1, " + i + ")", x.put(1, i, 1), -11);
      Due.is("put(0, " + i + ")", x.put(0, i, 1), -13);
    }
  }

  private static void getVoid() {
    Due.by("Place i of a ROW. VOID: no such ROW, missing, no such place.");
    PinionBench x = new PinionBench();
    x.row(0, 2);
    for (int r = -1; r <= 3; r++) {
      for (int i = -1; i <= 2; i++) {
        Due.is("get(" + r + ", " + i + ")", x.get(r, i), r == 0 && (i == 0 || i == 1) ? 0 : VOID);
      }
    }
  }

  private static void layAsManyAsOfBoth() {
    Due.by("TEETH of WHEELS 0 .. become the places of a ROW, as many as there are of both: how many.");
    for (int wheels = 0; wheels <= 16; wheels++) {
      for (int n = 0; n <= 20; n++) {
        PinionBench x = new PinionBench();
        for (int i = 0; i < wheels; i++) {
          x.wheel(i % 2 == 0 ? 5 + i : -20 - i);
        }
        x.row(1, n);
        int both = Math.min(wheels, n);
        Due.is(wheels + " wheels, a row of " + n, x.lay(1), both);
        for (int i = 0; i < n; i++) {
          Due.is("get(1, " + i + ")", x.get(1, i), i >= both ? 0 : i % 2 == 0 ? 5 + i : -20 - i);
        }
        Due.is("the wheels stay", x.count(0), wheels);
      }
    }
  }

  private static void layLeavesTheRest() {
    Due.by("as many as there are of both: how many.");
    PinionBench x = Due.bench(20, -60);
    x.row(0, 4);
    x.row(1, 4);
    for (int i = 0; i < 4; i++) {
      x.put(0, i, 100 + i);
      x.put(1, i, 200 + i);
    }
    Due.is("lay(0)", x.lay(0), 2);
    long[] due = {20, -60, 102, 103};
    for (int i = 0; i < 4; i++) {
      Due.is("get(0, " + i + ")", x.get(0, i), due[i]);
      Due.is("get(1, " + i + ")", x.get(1, i), 200 + i);
    }
    x.shift(0, 50);
    Due.is("lay(0) again", x.lay(0), 2);
    Due.is("a shift is no matter", x.get(0, 0), 20);
  }

  private static void layRefused() {
    Due.by("as many as there are of both: how many. BAD; -11.");
    Twins.noTrace("lay(1), missing", Twins::used, x -> x.lay(1), -11);
    Twins.noTrace("lay(3)", Twins::used, x -> x.lay(3), BAD);
    Twins.noTrace("lay(-1)", Twins::used, x -> x.lay(-1), BAD);
    Twins.noTrace("lay(2), of none", Twins::used, x -> x.lay(2), 0);
    Due.is("no wheels, missing", new PinionBench().lay(0), -11);
  }

  /** One place is wrong, then one behind it too. */
  private static void judgeFirst() {
    Due.by("The first place of a ROW that doesn't tell TEETH of the WHEEL with its number");
    for (int at = 0; at < 16; at++) {
      PinionBench x = new PinionBench();
      for (int i = 0; i < 16; i++) {
        x.wheel(i % 3 == 2 ? -40 - i : 40 + i);
      }
      x.row(0, 16);
      x.lay(0);
      Due.is("all told", x.judge(0), NOT);
      x.put(0, at, x.get(0, at) + 1);
      Due.is("wrong at " + at, x.judge(0), at);
      x.put(0, 15, 0);
      Due.is("wrong at " + at + " and 15", x.judge(0), at);
      x.put(0, at, -x.of(at, 0));
      Due.is("without its sign at " + at, x.judge(0), at);
    }
  }

  private static void judgeNoWheel() {
    Due.by("(there is none, too)");
    for (int wheels = 0; wheels <= 16; wheels++) {
      PinionBench x = new PinionBench();
      for (int i = 0; i < wheels; i++) {
        x.wheel(20 + i);
      }
      for (int n : new int[] {0, wheels - 1, wheels, wheels + 1, 20}) {
        if (n >= 0) {
          x.row(0, n);
          x.lay(0);
          Due.is(wheels + " wheels, a row of " + n, x.judge(0), n > wheels ? wheels : NOT);
        }
      }
    }
  }

  private static void judgeNone() {
    Due.by("judge() of a ROW of none: NOT.");
    PinionBench x = new PinionBench();
    x.row(0, 0);
    Due.is("no wheels", x.judge(0), NOT);
    x.wheel(20);
    Due.is("a wheel", x.judge(0), NOT);
    Twins.noTrace("judge(2), of none", Twins::used, y -> y.judge(2), NOT);
    Twins.noTrace("judge(0)", Twins::used, y -> y.judge(0), 2);
  }

  private static void judgeWholeLongs() {
    Due.by("that doesn't tell TEETH of the WHEEL with its number");
    PinionBench x = Due.bench(20, -60);
    x.row(0, 2);
    long[] wrong = {0, -20, 19, 21, 20 + (1L << 32), 20 + (1L << 63), Long.MIN_VALUE, Long.MAX_VALUE};
    for (long v : wrong) {
      x.put(0, 0, v);
      x.put(0, 1, -60);
      Due.is("20 told as " + v, x.judge(0), 0);
    }
    x.put(0, 0, 20);
    Due.is("told", x.judge(0), NOT);
    x.put(0, 1, -60 & 0xffffffffL);
    Due.is("-60 without its upper half", x.judge(0), 1);
  }

  private static void judgeRefused() {
    Due.by("(there is none, too); NOT. BAD; -11.");
    Twins.noTrace("judge(1), missing", Twins::used, x -> x.judge(1), -11);
    Twins.noTrace("judge(3)", Twins::used, x -> x.judge(3), BAD);
    Twins.noTrace("judge(-1)", Twins::used, x -> x.judge(-1), BAD);
    Due.is("no wheels, missing", new PinionBench().judge(2), -11);
  }
}
