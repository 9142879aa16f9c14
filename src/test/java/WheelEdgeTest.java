/** Promises 1 to 6 and 11, and what the Terms say of wheels: each sentence that names an edge. */
public final class WheelEdgeTest {
  private static final int BAD = PinionBench.BAD, NOT = PinionBench.NOT, FULL = PinionBench.FULL;
  private static final int MAX = Integer.MAX_VALUE, MIN = Integer.MIN_VALUE;
  private static final int[] SQUARES = {627, 1170, 1786};

  public static void main(String[] args) {
    constants();
    badOfThoseBelowNothing();
    newObject();
    sixteenWheels();
    teethTaken();
    wheelBadAheadOfFull();
    refusedWheelHasNoNumber();
    shiftsTaken();
    shiftOfWhichWheel();
    pressuresTaken();
    squares();
    limitToTheLast();
    limitJustKept();
    ringIsNeither();
    pointed();
    pointedByNoPressure();
    undercutByPressureAsItIs();
    leastShiftAtTheLeast();
    leastShiftNotOfARing();
    leastShiftIsAlwaysWithin();
    ofWhat();
    ofWhichWheel();
    fewestOfEachShift();
    fewestWithin();
    wheelsWhat();
    wheelsNoneAndAll();
    wheelsUndercutOutwardOnly();
    unlikeTeeth();
    lastCall();
    Due.close("WheelEdgeTest");
  }

  private static void constants() {
    Due.by("public static final int BAD = -1, NOT = -2, FULL = -3, STATE = -5, CLASH = -8;");
    Due.is("BAD", PinionBench.BAD, -1);
    Due.is("NOT", PinionBench.NOT, -2);
    Due.is("FULL", PinionBench.FULL, -3);
    Due.is("STATE", PinionBench.STATE, -5);
    Due.is("CLASH", PinionBench.CLASH, -8);
    Due.by("VOID: the least long; CLASHED: one more than that.");
    Due.is("VOID", PinionBench.VOID, -9223372036854775807L - 1);
    Due.is("CLASHED", PinionBench.CLASHED, -9223372036854775807L);
  }

  private static void badOfThoseBelowNothing() {
    Due.by("Where it may be below 0, -1000 stands for BAD.");
    PinionBench x = Due.bench(20);
    Due.is("shift(1, 0)", x.shift(1, 0), -1000);
    Due.is("of(1, 0)", x.of(1, 0), -1000);
    Due.is("shiftFor(0, 1, 1, 1)", x.shiftFor(0, 1, 1, 1), -1000);
    Due.is("together(4, 5, 1)", x.together(4, 5, 1), -1000);
    Due.by("BAD (-1): no such one, a number out of its range.");
    Due.is("wheel(4)", x.wheel(4), -1);
    Due.is("pressure(3)", x.pressure(3), -1);
    Due.is("fewest(101)", x.fewest(101), -1);
    Due.is("wheels(4)", x.wheels(4), -1);
    Due.is("pair(0, 1)", x.pair(0, 1), -1);
    Due.is("most(4, 5)", x.most(4, 5), -1);
    Due.is("searched(504, 1, 401, 0, 0)", x.searched(504, 1, 401, 0, 0), -1);
    Due.is("feed(31)", x.feed(31), -1);
    Due.is("row(3, 0)", x.row(3, 0), -1);
    Due.is("put(3, 0, 0)", x.put(3, 0, 0), -1);
    Due.is("lay(3)", x.lay(3), -1);
    Due.is("judge(3)", x.judge(3), -1);
    Due.is("count(5)", x.count(5), -1);
  }

  private static void newObject() {
    Due.by("No WHEELS, PRESSURE 1.");
    Due.is("count(0)", new PinionBench().count(0), 0);
    Due.is("count(3)", new PinionBench().count(3), 1);
    Due.is("pressure(2)", new PinionBench().pressure(2), 1);
    for (int what = 0; what <= 5; what++) {
      Due.is("of(0, " + what + ")", new PinionBench().of(0, what), -1000);
    }
  }

  private static void sixteenWheels() {
    Due.by("WHEELS 0 .. as they come (16 at most)");
    PinionBench x = new PinionBench();
    for (int i = 0; i < 16; i++) {
      Due.is("count(0) ahead of wheel " + i, x.count(0), i);
      Due.is("wheel " + i, x.wheel(20 + i), i);
      Due.is("of the next one", x.of(i + 1, 0), -1000);
    }
    Due.is("the 17th", x.wheel(20), FULL);
    Due.is("the 17th, a ring", x.wheel(-20), FULL);
    Due.is("count(0)", x.count(0), 16);
    for (int i = 0; i < 16; i++) {
      Due.is("of(" + i + ", 0)", x.of(i, 0), 20 + i);
    }
    Twins.noTrace("the 17th", Twins::full, y -> y.wheel(20), FULL);
  }

  private static void teethTaken() {
    Due.by("have TEETH (-99 .. -20: a RING, teeth inward; 5 .. 99: outward)");
    for (int teeth = -130; teeth <= 130; teeth++) {
      boolean ring = teeth >= -99 && teeth <= -20, outward = teeth >= 5 && teeth <= 99;
      PinionBench x = new PinionBench();
      Due.is("wheel(" + teeth + ")", x.wheel(teeth), ring || outward ? 0 : BAD);
      Due.is("wheel(" + teeth + "), count(0)", x.count(0), ring || outward ? 1 : 0);
      Due.is("wheel(" + teeth + "), of(0, 0)", x.of(0, 0), ring || outward ? teeth : -1000);
      Due.is("wheel(" + teeth + "), rings", x.wheels(2), ring ? 1 : 0);
      Due.is("wheel(" + teeth + "), teeth outward", x.count(4), outward ? teeth : 0);
    }
    for (int teeth : new int[] {MIN, MIN + 1, MIN + 20, -1000, 1000, MAX}) {
      Due.is("wheel(" + teeth + ")", new PinionBench().wheel(teeth), BAD);
    }
    for (int teeth : new int[] {MIN, -100, -19, 0, 4, 100, MAX}) {
      Twins.noTrace("wheel(" + teeth + ")", Twins::used, x -> x.wheel(teeth), BAD);
    }
  }

  private static void wheelBadAheadOfFull() {
    Due.by("`int wheel(int teeth)`: A WHEEL: its number. BAD; FULL.");
    for (int teeth : new int[] {-100, -19, 4, 100}) {
      Twins.noTrace("wheel(" + teeth + ") of 16", Twins::full, x -> x.wheel(teeth), BAD);
    }
    for (int teeth : new int[] {-99, -20, 5, 99}) {
      Twins.noTrace("wheel(" + teeth + ") of 16", Twins::full, x -> x.wheel(teeth), FULL);
    }
  }

  private static void refusedWheelHasNoNumber() {
    Due.by("wheel() that is refused has no number.");
    PinionBench x = new PinionBench();
    Due.is("wheel(4)", x.wheel(4), BAD);
    Due.is("shift(0, 0)", x.shift(0, 0), -1000);
    Due.is("wheel(5)", x.wheel(5), 0);
    Due.is("wheel(100)", x.wheel(100), BAD);
    Due.is("shift(1, 0)", x.shift(1, 0), -1000);
    Due.is("wheel(99)", x.wheel(99), 1);
  }

  private static void shiftsTaken() {
    Due.by("a SHIFT (-50 .. 100 hundredths; 0 at first).");
    for (int v = -130; v <= 130; v++) {
      boolean good = v >= -50 && v <= 100;
      PinionBench x = Due.bench(20, -40);
      for (int wheel = 0; wheel < 2; wheel++) {
        Due.is("of(" + wheel + ", 1) at first", x.of(wheel, 1), 0);
        Due.is("shift(" + wheel + ", " + v + ")", x.shift(wheel, v), good ? 0 : -1000);
        Due.is("of(" + wheel + ", 1) behind " + v, x.of(wheel, 1), good ? v : 0);
      }
    }
    for (int v : new int[] {MIN, -51, 101, MAX}) {
      Twins.noTrace("shift(0, " + v + ")", Twins::used, x -> x.shift(0, v), -1000);
      Twins.noTrace("shift(2, " + v + ")", Twins::used, x -> x.shift(2, v), -1000);
    }
  }

  private static void shiftOfWhichWheel() {
    Due.by("`int shift(int wheel, int v)`: SHIFT of a WHEEL becomes v: what it was. -1000: BAD.");
    Due.is("no wheels, shift(0, 0)", new PinionBench().shift(0, 0), -1000);
    for (int wheel : new int[] {MIN, -1, 6, 16, MAX}) {
      Twins.noTrace("shift(" + wheel + ", 1)", Twins::used, x -> x.shift(wheel, 1), -1000);
    }
    PinionBench x = new PinionBench();
    Twins.full(x);
    Due.is("the last of 16", x.shift(15, -50), 45);
    Due.is("what it was", x.shift(15, -1), -50);
    Due.is("what it was, as told of BAD", x.shift(15, 100), -1);
    Due.is("what it was", x.shift(15, 100), 100);
    Due.is("of(15, 1)", x.of(15, 1), 100);
    Due.is("of(14, 1)", x.of(14, 1), 42);
    Due.is("one behind 16", x.shift(16, 0), -1000);
  }

  private static void pressuresTaken() {
    Due.by("The PRESSURE is one of 0 (14.5 degrees), 1 (20 degrees; at first), 2 (25 degrees)");
    for (int v = -5; v <= 5; v++) {
      boolean good = v >= 0 && v <= 2;
      PinionBench x = new PinionBench();
      Due.is("pressure(" + v + ")", x.pressure(v), good ? 1 : BAD);
      Due.is("count(3)", x.count(3), good ? v : 1);
    }
    for (int v : new int[] {MIN, -1, 3, MAX}) {
      Twins.noTrace("pressure(" + v + ")", Twins::used, x -> x.pressure(v), BAD);
    }
    Due.by("`int pressure(int v)`: PRESSURE becomes v: what it was. BAD.");
    PinionBench x = new PinionBench();
    int was = 1;
    for (int v : new int[] {0, 0, 2, 2, 1, 0, 1}) {
      Due.is("pressure(" + v + ")", x.pressure(v), was);
      was = v;
    }
  }

  /** The least shift by a division: TEETH * SQUARE by 200, cut, is how far it may be below 100. */
  private static int least(int teeth, int pressure) {
    return Math.max(-50, 100 - teeth * SQUARES[pressure] / 200);
  }

  /** By these TEETH and SHIFTS a SQUARE of one less (the first of each), or one more, would tell another LIMIT. */
  private static void squares() {
    Due.by("its SQUARE (of the sine, in ten thousandths): 627, 1170, 1786.");
    int[][] kept = {{0, 15, 53}, {0, 46, -44}, {1, 13, 24}, {2, 14, -25}};
    for (int[] k : kept) {
      undercutIs(k[0], k[1], k[2], 0);
    }
    // No TEETH tell 1170 from 1171 here: CONTACT does.
    int[][] under = {{0, 22, 31}, {0, 44, -38}, {2, 15, -34}};
    for (int[] u : under) {
      undercutIs(u[0], u[1], u[2], 1);
    }
  }

  private static void undercutIs(int pressure, int teeth, int shift, int due) {
    PinionBench x = Due.bench(teeth);
    x.pressure(pressure);
    x.shift(0, shift);
    String name = teeth + " shifted " + shift + ", pressure " + pressure;
    Due.is(name + ", undercut", x.of(0, 2), due);
    Due.is(name + ", wheels undercut", x.wheels(0), due);
    Due.is(name + ", least shift", x.of(0, 4), shift + due);
    Due.is(name + ", as few as may be", x.fewest(shift), teeth + due);
  }

  private static void limitToTheLast() {
    Due.by("TEETH * SQUARE >= 200 * (100 - s), as whole numbers.");
    for (int pressure = 0; pressure < 3; pressure++) {
      for (int teeth = 5; teeth <= 99; teeth++) {
        String name = teeth + " teeth, pressure " + pressure;
        int least = least(teeth, pressure);
        PinionBench x = Due.bench(teeth);
        x.pressure(pressure);
        Due.is(name + ", least shift", x.of(0, 4), least);
        x.shift(0, least);
        Due.is(name + ", undercut by it", x.of(0, 2), 0);
        if (least > -50) {
          x.shift(0, least - 1);
          Due.is(name + ", undercut by one less", x.of(0, 2), 1);
        }
      }
    }
  }

  /** 20 teeth, 20 degrees: 23400 on both sides. */
  private static void limitJustKept() {
    Due.by("UNDERCUT is a WHEEL outward for which that is not so");
    PinionBench x = Due.bench(20);
    x.shift(0, -17);
    Due.is("alike on both sides, of(0, 2)", x.of(0, 2), 0);
    Due.is("alike on both sides, wheels(0)", x.wheels(0), 0);
    Due.is("alike on both sides, of(0, 4)", x.of(0, 4), -17);
    Due.is("alike on both sides, fewest(-17)", x.fewest(-17), 20);
    x.shift(0, -18);
    Due.is("200 too few, of(0, 2)", x.of(0, 2), 1);
    Due.is("200 too few, wheels(0)", x.wheels(0), 1);
    Due.is("200 too few, fewest(-18)", x.fewest(-18), 21);
  }

  private static void ringIsNeither() {
    Due.by("A RING is neither.");
    for (int teeth : new int[] {-20, -21, -99}) {
      PinionBench x = Due.bench(teeth);
      x.pressure(0);
      for (int v : new int[] {-50, 0, 100}) {
        x.shift(0, v);
        Due.is(teeth + " shifted " + v + ", undercut", x.of(0, 2), 0);
        Due.is(teeth + " shifted " + v + ", pointed", x.of(0, 3), 0);
        Due.is(teeth + " shifted " + v + ", wheels(0)", x.wheels(0), 0);
        Due.is(teeth + " shifted " + v + ", wheels(1)", x.wheels(1), 0);
      }
    }
  }

  private static void pointed() {
    Due.by("POINTED: one outward whose SHIFT is above 5 * TEETH - 10.");
    for (int teeth = 5; teeth <= 21; teeth++) {
      PinionBench x = Due.bench(teeth);
      x.shift(0, 5 * teeth - 10);
      Due.is(teeth + " on the edge, of(0, 3)", x.of(0, 3), 0);
      Due.is(teeth + " on the edge, wheels(1)", x.wheels(1), 0);
      x.shift(0, 5 * teeth - 9);
      Due.is(teeth + " above it, of(0, 3)", x.of(0, 3), 1);
      Due.is(teeth + " above it, wheels(1)", x.wheels(1), 1);
    }
    for (int teeth = 22; teeth <= 99; teeth++) {
      PinionBench x = Due.bench(teeth);
      x.shift(0, 100);
      Due.is(teeth + " shifted as far as may be", x.of(0, 3), 0);
    }
  }

  private static void pointedByNoPressure() {
    Due.by("A SHIFT is POINTED, UNDERCUT by PRESSURE as it is.");
    PinionBench x = Due.bench(5, 5);
    x.shift(0, 16);
    x.shift(1, 15);
    for (int pressure = 0; pressure < 3; pressure++) {
      x.pressure(pressure);
      Due.is("pressure " + pressure + ", of(0, 3)", x.of(0, 3), 1);
      Due.is("pressure " + pressure + ", of(1, 3)", x.of(1, 3), 0);
      Due.is("pressure " + pressure + ", wheels(1)", x.wheels(1), 1);
    }
  }

  /** Of no shift: 32, 18, 12 teeth are just enough. */
  private static void undercutByPressureAsItIs() {
    Due.by("A SHIFT is POINTED, UNDERCUT by PRESSURE as it is.");
    PinionBench x = Due.bench(31, 32, 17, 18, 11, 12);
    int[][] due = {{1, 0, 1, 1, 1, 1}, {0, 0, 1, 0, 1, 1}, {0, 0, 0, 0, 1, 0}};
    int[] all = {5, 3, 1};
    for (int pressure : new int[] {1, 0, 2, 0, 1}) {
      x.pressure(pressure);
      for (int i = 0; i < 6; i++) {
        Due.is("pressure " + pressure + ", of(" + i + ", 2)", x.of(i, 2), due[pressure][i]);
      }
      Due.is("pressure " + pressure + ", wheels(0)", x.wheels(0), all[pressure]);
    }
  }

  private static void leastShiftAtTheLeast() {
    Due.by("LEAST SHIFT of one outward that isn't UNDERCUT even at -50 is -50.");
    int[][] justNot = {{47, -47}, {25, -46}, {16, -42}};
    for (int pressure = 0; pressure < 3; pressure++) {
      int teeth = justNot[pressure][0];
      PinionBench x = Due.bench(teeth, teeth + 1, 99);
      x.pressure(pressure);
      Due.is("pressure " + pressure + ", " + teeth, x.of(0, 4), justNot[pressure][1]);
      Due.is("pressure " + pressure + ", " + (teeth + 1), x.of(1, 4), -50);
      Due.is("pressure " + pressure + ", 99", x.of(2, 4), -50);
      x.shift(1, -50);
      Due.is("pressure " + pressure + ", " + (teeth + 1) + " undercut", x.of(1, 2), 0);
    }
  }

  private static void leastShiftNotOfARing() {
    Due.by("-1001: LEAST SHIFT of a RING, none within -50 .. 100.");
    for (int teeth : new int[] {-20, -99}) {
      PinionBench x = Due.bench(teeth);
      for (int pressure = 0; pressure < 3; pressure++) {
        x.pressure(pressure);
        Due.is(teeth + ", pressure " + pressure, x.of(0, 4), -1001);
      }
    }
  }

  /** The hardest one, 5 teeth at 14.5 degrees, needs 85: there is always one. */
  private static void leastShiftIsAlwaysWithin() {
    Due.by("LEAST SHIFT of a WHEEL: the least s by which it isn't UNDERCUT.");
    PinionBench x = Due.bench(5);
    int[] due = {85, 71, 56};
    for (int pressure = 0; pressure < 3; pressure++) {
      x.pressure(pressure);
      for (int v : new int[] {-50, 0, 100}) {
        x.shift(0, v);
        Due.is("pressure " + pressure + ", shifted " + v, x.of(0, 4), due[pressure]);
      }
    }
  }

  private static void ofWhat() {
    Due.by("Of a WHEEL: TEETH (what 0), SHIFT (1), whether it is UNDERCUT (2), POINTED (3; 1, 0), LEAST SHIFT (4),"
        + " in how many PAIRS of THE TRAIN it is (5). -1000: BAD");
    PinionBench x = Due.bench(20, -60);
    x.shift(0, -3);
    x.pair(0, 1);
    int[][] due = {{20, -3, 0, 0, -17, 1}, {-60, 0, 0, 0, -1001, 1}};
    for (int wheel = 0; wheel < 2; wheel++) {
      for (int what = 0; what <= 5; what++) {
        Due.is("of(" + wheel + ", " + what + ")", x.of(wheel, what), due[wheel][what]);
      }
      for (int what : new int[] {MIN, -1, 6, MAX}) {
        Due.is("of(" + wheel + ", " + what + ")", x.of(wheel, what), -1000);
      }
    }
    for (int what = -1; what <= 6; what++) {
      int asked = what;
      Twins.noTrace("of(9, " + what + ")", Twins::used, y -> y.of(9, asked), -1000);
    }
  }

  private static void ofWhichWheel() {
    Due.by("`int of(int wheel, int what)`: Of a WHEEL");
    PinionBench x = new PinionBench();
    for (int n = 0; n <= 16; n++) {
      Due.is(n + " wheels, of(" + n + ", 0)", x.of(n, 0), -1000);
      Due.is(n + " wheels, of(-1, 0)", x.of(-1, 0), -1000);
      if (n > 0) {
        Due.is(n + " wheels, of the last", x.of(n - 1, 0), 30);
      }
      x.wheel(30);
    }
    for (int what = 0; what <= 5; what++) {
      Due.is("of(MIN, " + what + ")", x.of(MIN, what), -1000);
      Due.is("of(MAX, " + what + ")", x.of(MAX, what), -1000);
      Due.is("of(16, " + what + ")", x.of(16, what), -1000);
    }
  }

  private static void fewestOfEachShift() {
    Due.by("The fewest TEETH outward (5 .. 99) of SHIFT s (-50 .. 100) that aren't UNDERCUT. BAD; NOT.");
    for (int pressure = 0; pressure < 3; pressure++) {
      PinionBench x = new PinionBench();
      x.pressure(pressure);
      for (int s = -55; s <= 105; s++) {
        int up = (200 * (100 - s) + SQUARES[pressure] - 1) / SQUARES[pressure];
        Due.is("pressure " + pressure + ", fewest(" + s + ")", x.fewest(s), s < -50 || s > 100 ? BAD : Math.max(5, up));
      }
    }
    for (int s : new int[] {MIN, -51, 101, MAX}) {
      Twins.noTrace("fewest(" + s + ")", Twins::full, x -> x.fewest(s), BAD);
    }
  }

  /** 48 teeth are enough for the least shift at the least pressure: NOT is never due. */
  private static void fewestWithin() {
    Due.by("The fewest TEETH outward (5 .. 99) of SHIFT s (-50 .. 100) that aren't UNDERCUT.");
    int[] most = {48, 26, 17};
    for (int pressure = 0; pressure < 3; pressure++) {
      PinionBench x = new PinionBench();
      x.pressure(pressure);
      Due.is("pressure " + pressure + ", fewest(-50)", x.fewest(-50), most[pressure]);
      Due.is("pressure " + pressure + ", fewest(100)", x.fewest(100), 5);
    }
    Due.is("NOT is no count of teeth", NOT, -2);
  }

  private static void wheelsWhat() {
    Due.by("How many WHEELS outward are UNDERCUT (what 0), POINTED (1), RINGS (2), unlike TEETH (3). BAD.");
    for (int what : new int[] {MIN, -1, 4, MAX}) {
      Twins.noTrace("wheels(" + what + ")", Twins::used, x -> x.wheels(what), BAD);
      Due.is("no wheels, wheels(" + what + ")", new PinionBench().wheels(what), BAD);
    }
    // At 25 degrees 9 teeth shifted 36 are pointed, and undercut by one less than 20 (the least for 9 teeth).
    int[] due = {0, 1, 2, 6};
    for (int what = 0; what < 4; what++) {
      int asked = what;
      Twins.noTrace("wheels(" + what + ")", Twins::used, x -> x.wheels(asked), due[what]);
    }
  }

  private static void wheelsNoneAndAll() {
    Due.by("How many WHEELS outward are UNDERCUT (what 0), POINTED (1), RINGS (2), unlike TEETH (3).");
    for (int what = 0; what < 4; what++) {
      Due.is("no wheels, wheels(" + what + ")", new PinionBench().wheels(what), 0);
    }
    PinionBench undercut = new PinionBench(), rings = new PinionBench();
    for (int i = 0; i < 16; i++) {
      undercut.wheel(5);
      undercut.shift(i, 16);
      rings.wheel(-20 - i);
    }
    int[] all = {16, 16, 0, 1}, noneButRings = {0, 0, 16, 16};
    for (int what = 0; what < 4; what++) {
      Due.is("16 of 5 teeth, wheels(" + what + ")", undercut.wheels(what), all[what]);
      Due.is("16 rings, wheels(" + what + ")", rings.wheels(what), noneButRings[what]);
    }
  }

  private static void wheelsUndercutOutwardOnly() {
    Due.by("UNDERCUT is a WHEEL outward for which that is not so; POINTED: one outward");
    PinionBench x = Due.bench(17, -20, 5, -20);
    x.shift(1, -50);
    x.shift(3, 100);
    x.shift(2, 16);
    Due.is("wheels(0)", x.wheels(0), 2);
    Due.is("wheels(1)", x.wheels(1), 1);
    Due.is("wheels(2)", x.wheels(2), 2);
  }

  private static void unlikeTeeth() {
    Due.by("Unlike TEETH: a RING's are told with their sign, so are never those of one outward.");
    int[] teeth = {20, -20, 20, -20, 99, -99, 5, 99, 5};
    int[] due = {1, 2, 2, 2, 3, 4, 5, 5, 5};
    PinionBench x = new PinionBench();
    for (int i = 0; i < teeth.length; i++) {
      x.wheel(teeth[i]);
      x.shift(i, i);
      Due.is("behind wheel(" + teeth[i] + "), wheels(3)", x.wheels(3), due[i]);
    }
  }

  private static void lastCall() {
    Due.by("An object is used for at most 512 calls after it has been made");
    PinionBench x = new PinionBench();
    for (int call = 1; call < 512; call++) {
      Due.is("call " + call, x.pressure(call % 3), call == 1 ? 1 : (call - 1) % 3);
    }
    Due.is("call 512", x.pressure(2), 511 % 3);
  }
}
