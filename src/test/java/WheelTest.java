/** Promises 1 to 6 and 11: the wheels, each alone. */
public final class WheelTest {
  private static final int MAX = Integer.MAX_VALUE, MIN = Integer.MIN_VALUE;

  public static void main(String[] args) {
    newObject();
    wheel();
    shift();
    pressure();
    of();
    leastShift();
    fewest();
    wheels();
    Due.close("WheelTest");
  }

  /** Promise 1. */
  private static void newObject() {
    PinionBench x = new PinionBench();
    for (int what : new int[] {0, 1, 2, 4}) {
      Due.is("1 count(" + what + ")", x.count(what), 0);
    }
    Due.is("1 count(3)", x.count(3), 1);
    Due.is("1 of(0, 0)", x.of(0, 0), -1000);
    Due.is("1 faulty()", x.faulty(), PinionBench.NOT);
    Due.is("1 undo()", x.undo(), PinionBench.STATE);
    Due.is("1 get(0, 0)", x.get(0, 0), PinionBench.VOID);
    Due.is("1 wheels(3)", x.wheels(3), 0);
    Due.is("1 VOID", PinionBench.VOID, Long.MIN_VALUE);
    Due.is("1 CLASHED", PinionBench.CLASHED, Long.MIN_VALUE + 1);
    Due.is("1 CLASH", PinionBench.CLASH, -8);
  }

  /** Promise 2. */
  private static void wheel() {
    PinionBench x = new PinionBench();
    for (int bad : new int[] {0, 4, 1, -1, -5, -19, -100, 100, MAX, MIN}) {
      Due.is("2 wheel(" + bad + ")", x.wheel(bad), PinionBench.BAD);
    }
    int[] good = {5, 99, -20, -99, 6, 98, -21, -98};
    for (int i = 0; i < 16; i++) {
      Due.is("2 wheel " + i, x.wheel(good[i % 8]), i);
      Due.is("2 of(" + i + ", 0)", x.of(i, 0), good[i % 8]);
      Due.is("2 of(" + i + ", 1)", x.of(i, 1), 0);
    }
    Due.is("2 the 17th", x.wheel(20), PinionBench.FULL);
    Due.is("2 BAD is ahead of FULL", x.wheel(4), PinionBench.BAD);
    Due.is("2 count(0)", x.count(0), 16);
    Due.is("2 of(16, 0)", x.of(16, 0), -1000);
  }

  /** Promise 3. */
  private static void shift() {
    PinionBench x = Due.bench(20, -60, 30);
    Due.is("3 shift(0, 100)", x.shift(0, 100), 0);
    Due.is("3 shift(0, -50)", x.shift(0, -50), 100);
    Due.is("3 shift(1, 7)", x.shift(1, 7), 0);
    for (int bad : new int[] {101, -51, MAX, MIN}) {
      Due.is("3 shift(0, " + bad + ")", x.shift(0, bad), -1000);
    }
    for (int bad : new int[] {3, -1, 16, MAX, MIN}) {
      Due.is("3 shift(" + bad + ", 0)", x.shift(bad, 0), -1000);
    }
    Due.is("3 shift(0, 0)", x.shift(0, 0), -50);
    Due.is("3 shift(1, 0)", x.shift(1, 0), 7);
    Due.is("3 of(2, 1)", x.of(2, 1), 0);
  }

  /** Promise 4. */
  private static void pressure() {
    PinionBench x = new PinionBench();
    Due.is("4 pressure(2)", x.pressure(2), 1);
    Due.is("4 pressure(0)", x.pressure(0), 2);
    for (int bad : new int[] {3, -1, MAX, MIN}) {
      Due.is("4 pressure(" + bad + ")", x.pressure(bad), PinionBench.BAD);
    }
    Due.is("4 count(3)", x.count(3), 0);
    Due.is("4 pressure(1)", x.pressure(1), 0);
  }

  /** Promise 5, but for LEAST SHIFT. */
  private static void of() {
    PinionBench x = Due.bench(17, 18, -24, 5, 22);
    tells(x, "5 of 17", 0, 17, 0, 1, 0);
    tells(x, "5 of 18", 1, 18, 0, 0, 0);
    tells(x, "5 of a ring", 2, -24, 0, 0, 0);
    x.shift(2, -50);
    tells(x, "5 of a ring with a shift below", 2, -24, -50, 0, 0);
    x.shift(2, 100);
    tells(x, "5 of a ring with a shift above", 2, -24, 100, 0, 0);
    x.shift(3, 15);
    tells(x, "5 of 5 on the edge", 3, 5, 15, 1, 0);
    x.shift(3, 16);
    tells(x, "5 of 5 beyond it", 3, 5, 16, 1, 1);
    x.shift(4, 100);
    tells(x, "5 of 22 on the edge", 4, 22, 100, 0, 0);
    x.pressure(0);
    tells(x, "5 of 18 at 14.5 degrees", 1, 18, 0, 1, 0);
    for (int bad : new int[] {-1, 6, MAX, MIN}) {
      Due.is("5 of(0, " + bad + ")", x.of(0, bad), -1000);
      Due.is("5 of(2, " + bad + ")", x.of(2, bad), -1000);
    }
    for (int bad : new int[] {-1, 5, 16, MAX, MIN}) {
      for (int what = 0; what <= 5; what++) {
        Due.is("5 of(" + bad + ", " + what + ")", x.of(bad, what), -1000);
      }
    }
    Due.is("5 pair(0, 2)", x.pair(0, 2), 1);
    Due.is("5 pair(2, 1)", x.pair(2, 1), 2);
    Due.is("5 pair(0, 2)", x.pair(0, 2), 3);
    int[] pairs = {2, 1, 3, 0, 0};
    for (int i = 0; i < 5; i++) {
      Due.is("5 of(" + i + ", 5)", x.of(i, 5), pairs[i]);
    }
  }

  private static void tells(PinionBench x, String call, int wheel, int teeth, int shift, int undercut, int pointed) {
    int[] due = {teeth, shift, undercut, pointed};
    for (int what = 0; what < 4; what++) {
      Due.is(call + ", " + what, x.of(wheel, what), due[what]);
    }
  }

  /** Promise 5: the least shift by each pressure, worked out by hand. */
  private static void leastShift() {
    PinionBench x = Due.bench(5, 12, 17, 25, 26, 47, 48, 99, -40);
    int[][] due = {
      {85, 63, 47, 22, 19, -47, -50, -50, -1001},
      {71, 30, 1, -46, -50, -50, -50, -50, -1001},
      {56, -7, -50, -50, -50, -50, -50, -50, -1001}};
    for (int p = 0; p < 3; p++) {
      x.pressure(p);
      for (int i = 0; i < 9; i++) {
        x.shift(i, 7 * i);
        Due.is("5 pressure " + p + ", of(" + i + ", 4)", x.of(i, 4), due[p][i]);
      }
    }
  }

  /** Promise 6. */
  private static void fewest() {
    PinionBench x = new PinionBench();
    int[] shifts = {-50, 0, 50, 71, 72, 99, 100};
    int[][] due = {
      {48, 32, 16, 10, 9, 5, 5},
      {26, 18, 9, 5, 5, 5, 5},
      {17, 12, 6, 5, 5, 5, 5}};
    for (int p = 0; p < 3; p++) {
      x.pressure(p);
      for (int i = 0; i < shifts.length; i++) {
        Due.is("6 pressure " + p + ", fewest(" + shifts[i] + ")", x.fewest(shifts[i]), due[p][i]);
      }
    }
    x.pressure(1);
    Due.is("6 just enough, fewest(-17)", x.fewest(-17), 20);
    Due.is("6 just too few, fewest(-18)", x.fewest(-18), 21);
    x.wheel(20);
    Due.is("5 just enough, of(0, 4)", x.of(0, 4), -17);
    x.shift(0, -17);
    Due.is("5 just enough, of(0, 2)", x.of(0, 2), 0);
    x.shift(0, -18);
    Due.is("5 just too little, of(0, 2)", x.of(0, 2), 1);
    for (int bad : new int[] {-51, 101, MAX, MIN}) {
      Due.is("6 fewest(" + bad + ")", x.fewest(bad), PinionBench.BAD);
    }
  }

  /** Promise 11. */
  private static void wheels() {
    PinionBench x = Due.bench(17, 17, 18, -20, -20, -60, 20, 5, 60);
    int[] due = {3, 0, 3, 7};
    for (int what = 0; what < 4; what++) {
      Due.is("11 wheels(" + what + ")", x.wheels(what), due[what]);
    }
    for (int i = 0; i < 9; i++) {
      x.shift(i, 100);
    }
    int[] later = {0, 5, 3, 7};
    for (int what = 0; what < 4; what++) {
      Due.is("11 shifted, wheels(" + what + ")", x.wheels(what), later[what]);
    }
    for (int bad : new int[] {-1, 4, MAX, MIN}) {
      Due.is("11 wheels(" + bad + ")", x.wheels(bad), PinionBench.BAD);
    }
  }
}
