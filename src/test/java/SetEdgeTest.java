/** Promises 17 to 20, and what the Terms say of sets: each sentence that names an edge. */
public final class SetEdgeTest {
  private static final long VOID = PinionBench.VOID;
  private static final int BAD = PinionBench.BAD, NOT = PinionBench.NOT;
  private static final int MAX = Integer.MAX_VALUE, MIN = Integer.MIN_VALUE;
  private static final int[] SINES = {0, 0, 1000, 866, 707, 587, 500, 433, 382};

  public static void main(String[] args) {
    teethOfASet();
    howManyPlanets();
    kDivides();
    planetsDoNotTouch();
    planetsJustTouch();
    oneNeverTouches();
    eachSetByEachK();
    mostEnds();
    mostIsTheMost();
    noBoundForTheRing();
    holding();
    whichPart();
    lowestTermsAndSign();
    turnedOver();
    spans();
    spanHoldsItsEnds();
    searchedPlanets();
    told();
    thousandths();
    within();
    badAheadOfNone();
    noneAtAll();
    notInLowestTerms();
    firstByMiss();
    firstByTeeth();
    firstBySun();
    searchedMustStandTogether();
    searchedIsAsPlanetsAndTogether();
    Due.close("SetEdgeTest");
  }

  private static void teethOfASet() {
    Due.by("A SET: TEETH of a SUN s, of PLANETS p (5 .. 99 each), the RING has s + 2 * p");
    for (int teeth : new int[] {MIN, -99, -20, -5, 0, 4, 5, 99, 100, MAX}) {
      boolean good = teeth >= 5 && teeth <= 99;
      PinionBench x = new PinionBench();
      Due.is("together(" + teeth + ", 10, 1)", x.together(teeth, 10, 1), good ? 1 : -1000);
      Due.is("together(20, " + teeth + ", 1)", x.together(20, teeth, 1), good ? 1 : -1000);
      Due.is("most(" + teeth + ", 10)", x.most(teeth, 10) == BAD ? 0 : 1, good ? 1 : 0);
      Due.is("most(20, " + teeth + ")", x.most(20, teeth) == BAD ? 0 : 1, good ? 1 : 0);
      for (int part = 0; part < 2; part++) {
        Due.is("planets of sun " + teeth, x.planets(teeth, 10, 0, 1, part) == VOID ? 0 : 1, good ? 1 : 0);
        Due.is("planets of planet " + teeth, x.planets(20, teeth, 0, 1, part) == VOID ? 0 : 1, good ? 1 : 0);
      }
    }
    for (int teeth : new int[] {4, 100}) {
      Twins.noTrace("together of sun " + teeth, Twins::used, x -> x.together(teeth, 10, 2), -1000);
      Twins.noTrace("most of planet " + teeth, Twins::used, x -> x.most(20, teeth), BAD);
      Twins.noTrace("planets of sun " + teeth, Twins::used, x -> x.planets(teeth, 10, 0, 1, 0), VOID);
    }
  }

  private static void howManyPlanets() {
    Due.by("k PLANETS (1 .. 8).");
    PinionBench x = new PinionBench();
    for (int k : new int[] {MIN, -1, 0, 9, 10, MAX}) {
      Due.is("together(99, 5, " + k + ")", x.together(99, 5, k), -1000);
      Due.is("searched(560, " + k + ")", x.searched(560, k, 401, 20, 0), BAD);
    }
    Due.is("together(99, 5, 1)", x.together(99, 5, 1), 1);
    Due.is("together(99, 5, 8)", x.together(99, 5, 8), 1);
    Twins.noTrace("together of none", Twins::used, y -> y.together(99, 5, 0), -1000);
    Twins.noTrace("together of nine", Twins::used, y -> y.together(99, 5, 9), -1000);
  }

  private static void kDivides() {
    Due.by("if k divides s + s + 2 * p (2 * s + 2 * p)");
    int[][] due = {
      // 84 teeth of both: 2 * 84 is 168; one more on the sun and 3, 4, 6, 7, 8 divide no more.
      {74, 10, 2, 1}, {74, 10, 3, 1}, {74, 10, 4, 1}, {74, 10, 5, -1}, {74, 10, 6, 1}, {74, 10, 7, 1}, {74, 10, 8, 1},
      {75, 10, 2, 1}, {75, 10, 3, -1}, {75, 10, 4, -1}, {75, 10, 5, 1}, {75, 10, 6, -1}, {75, 10, 7, -1}, {75, 10, 8, -1},
      // The planets' teeth count twice: 2 * 76 + 2 * 11 is 174.
      {76, 11, 3, 1}, {76, 11, 6, 1}, {76, 11, 4, -1}, {76, 11, 8, -1}};
    for (int[] d : due) {
      Due.is("together(" + d[0] + ", " + d[1] + ", " + d[2] + ")", new PinionBench().together(d[0], d[1], d[2]), d[3]);
    }
  }

  /** The last planets that don't touch by a sun, and the first that do, or the other way about. */
  private static void planetsDoNotTouch() {
    Due.by("the PLANETS don't touch: (s + p) * SINE(k) > 1000 * (p + 2), with SINE of k 1 .. 8:"
        + " 0 (1: they never touch), 1000, 866, 707, 587, 500, 433, 382");
    for (int k = 2; k <= 8; k++) {
      for (int sun = 5; sun <= 99; sun++) {
        PinionBench x = new PinionBench();
        for (int planet = 5; planet <= 99; planet++) {
          boolean apart = (sun + planet) * SINES[k] > 1000 * (planet + 2);
          int got = x.together(sun, planet, k);
          Due.is("together(" + sun + ", " + planet + ", " + k + ") apart", got == 1 || got == -1 ? 1 : 0, apart ? 1 : 0);
        }
      }
    }
  }

  /** By six planets alone both sides can be alike: then they touch. */
  private static void planetsJustTouch() {
    Due.by("(s + p) * SINE(k) > 1000 * (p + 2)");
    PinionBench x = new PinionBench();
    for (int planet = 5; planet <= 94; planet++) {
      boolean divides = (4 * planet + 8) % 6 == 0;
      Due.is("sun 4 more than " + planet, x.together(planet + 4, planet, 6), divides ? -2 : -3);
      boolean nextDivides = (4 * planet + 10) % 6 == 0;
      Due.is("sun 5 more than " + planet, x.together(planet + 5, planet, 6), nextDivides ? 1 : -1);
    }
  }

  private static void oneNeverTouches() {
    Due.by("0 (1: they never touch)");
    for (int sun : new int[] {5, 6, 98, 99}) {
      for (int planet : new int[] {5, 6, 98, 99}) {
        Due.is("together(" + sun + ", " + planet + ", 1)", new PinionBench().together(sun, planet, 1), 1);
      }
    }
    Due.by("of 1 it is always so.");
    for (int sun = 5; sun <= 99; sun++) {
      PinionBench x = new PinionBench();
      for (int planet = 5; planet <= 99; planet++) {
        Due.is("together(" + sun + ", " + planet + ", 1)", x.together(sun, planet, 1), 1);
      }
    }
  }

  private static void eachSetByEachK() {
    Due.by("1: a SET can be PUT TOGETHER; -1: k doesn't divide; -2: they touch; -3: both. -1000: BAD.");
    // Of 24 and 17 (82): 1 and 2 divide; 7 and 8 planets of 17 teeth touch by a sun of 24, and 6 do not.
    int[] due = {1, 1, -1, -1, -1, -1, -3, -3};
    for (int k = 1; k <= 8; k++) {
      Due.is("together(24, 17, " + k + ")", new PinionBench().together(24, 17, k), due[k - 1]);
    }
    // Of 8 and 20 (56): 1, 2, 4, 7, 8 divide; three planets of 20 teeth still go by a sun of 8.
    int[] others = {1, 1, -1, -2, -3, -3, -2, -2};
    for (int k = 1; k <= 8; k++) {
      Due.is("together(8, 20, " + k + ")", new PinionBench().together(8, 20, k), others[k - 1]);
    }
    Twins.noTrace("together", Twins::used, x -> x.together(24, 17, 8), -3);
  }

  private static void mostEnds() {
    Due.by("The most PLANETS (1 .. 8) with which a SET can be PUT TOGETHER. BAD.");
    // 208 teeth: 8 divides, and 13 would too; 160: 8, and 10 would too.
    Due.is("most(99, 5)", new PinionBench().most(99, 5), 8);
    Due.is("most(75, 5)", new PinionBench().most(75, 5), 8);
    // Two never touch, and 2 always divides: fewer than two is never the most.
    Due.is("most(5, 99)", new PinionBench().most(5, 99), 2);
    Due.is("most(5, 5)", new PinionBench().most(5, 5), 4);
    Twins.noTrace("most", Twins::used, x -> x.most(99, 5), 8);
  }

  private static void mostIsTheMost() {
    Due.by("The most PLANETS (1 .. 8) with which a SET can be PUT TOGETHER.");
    for (int sun = 5; sun <= 99; sun += 2) {
      for (int planet = 5; planet <= 99; planet += 3) {
        PinionBench x = new PinionBench();
        int most = x.most(sun, planet);
        for (int k = 1; k <= 8; k++) {
          boolean together = x.together(sun, planet, k) == 1;
          String name = "most(" + sun + ", " + planet + ") is " + most + ", together by " + k;
          Due.is(name, together ? 1 : 0, k == most ? 1 : k > most ? 0 : together ? 1 : 0);
        }
      }
    }
  }

  private static void noBoundForTheRing() {
    Due.by("planets(), together(), most(), searched() have no bound for the RING's TEETH.");
    PinionBench x = new PinionBench();
    Due.is("a ring of 99", x.together(5, 47, 2), 1);
    Due.is("a ring of 101", x.together(5, 48, 2), 1);
    Due.is("a ring of 297", x.together(99, 99, 2), 1);
    Due.is("most, a ring of 101", x.most(5, 48), 2);
    Due.is("most, a ring of 297", x.most(99, 99), 4);
    Due.is("planets, a ring of 101", x.planets(5, 48, 0, 1, 0), -101);
    Due.is("planets, a ring of 297", x.planets(99, 99, 0, 2, 0), 4);
    Due.is("searched, a ring of 180", x.searched(6060, 2, 401, 0, 3), 360);
  }

  private static void planetsIs(int sun, int planet, int drives, int held, long above, long below) {
    String call = "planets(" + sun + ", " + planet + ", " + drives + ", " + held + ", ";
    Due.is(call + "0)", new PinionBench().planets(sun, planet, drives, held, 0), above);
    Due.is(call + "1)", new PinionBench().planets(sun, planet, drives, held, 1), below);
  }

  private static void holding() {
    Due.by("one driving (0 .. 2), another one held");
    long[][] above = {{VOID, -17, 24}, {17, VOID, 7}, {24, -7, VOID}};
    long[][] below = {{VOID, 7, 7}, {24, VOID, 24}, {17, 17, VOID}};
    for (int drives = -1; drives <= 3; drives++) {
      for (int held = -1; held <= 3; held++) {
        boolean good = drives >= 0 && drives <= 2 && held >= 0 && held <= 2;
        planetsIs(21, 15, drives, held, good ? above[drives][held] : VOID, good ? below[drives][held] : VOID);
      }
    }
    for (int bad : new int[] {MIN, -2, 4, MAX}) {
      planetsIs(21, 15, bad, 0, VOID, VOID);
      planetsIs(21, 15, 0, bad, VOID, VOID);
    }
    // Wild ones whose sum is one that good ones have.
    planetsIs(21, 15, -1, 2, VOID, VOID);
    planetsIs(21, 15, 3, 0, VOID, VOID);
    planetsIs(21, 15, MAX, MIN, VOID, VOID);
    Due.by("VOID: BAD (both the same).");
    for (int role = 0; role < 3; role++) {
      planetsIs(21, 15, role, role, VOID, VOID);
      int asked = role;
      Twins.noTrace("planets", Twins::used, x -> x.planets(21, 15, asked, asked, 0), VOID);
    }
  }

  private static void whichPart() {
    Due.by("part 0 above (it carries the sign), 1 below.");
    planetsIs(21, 15, 0, 1, -17, 7);
    for (int part : new int[] {MIN, -1, 2, MAX}) {
      Due.is("planets, part " + part, new PinionBench().planets(21, 15, 0, 1, part), VOID);
    }
  }

  private static void lowestTermsAndSign() {
    Due.by("SUN to RING, CARRIER held: -r by s.");
    planetsIs(5, 5, 0, 1, -3, 1);
    planetsIs(99, 5, 0, 1, -109, 99);
    planetsIs(5, 99, 0, 1, -203, 5);
    planetsIs(99, 99, 2, 1, -1, 3);
    Due.by("SUN to CARRIER, RING held: s + r by s.");
    planetsIs(5, 5, 0, 2, 4, 1);
    planetsIs(99, 5, 0, 2, 208, 99);
    planetsIs(5, 99, 0, 2, 208, 5);
    planetsIs(99, 99, 1, 2, 1, 4);
    Due.by("RING to CARRIER, SUN held: s + r by r.");
    planetsIs(5, 5, 2, 0, 4, 3);
    planetsIs(99, 5, 2, 0, 208, 109);
    planetsIs(5, 99, 2, 0, 208, 203);
    planetsIs(99, 99, 1, 0, 3, 4);
  }

  private static void turnedOver() {
    Due.by("HOLDING one of SUN (0), CARRIER (1), RING (2), driving another, the third one is taken:"
        + " RATIO (turns of what drives by turns of what is taken), with r for the RING's");
    Due.by("The other way about: turned over.");
    int[][] sets = {{21, 15}, {5, 5}, {99, 5}, {5, 99}, {20, 10}, {37, 53}};
    for (int[] set : sets) {
      for (int held = 0; held < 3; held++) {
        int one = held == 0 ? 1 : 0, other = 3 - held - one;
        PinionBench x = new PinionBench();
        long above = x.planets(set[0], set[1], one, held, 0), below = x.planets(set[0], set[1], one, held, 1);
        long sign = above < 0 ? -1 : 1;
        Due.is("minus by the carrier held alone, " + held, sign, held == 1 ? -1 : 1);
        planetsIs(set[0], set[1], other, held, sign * below, sign * above);
      }
    }
  }

  /** The answers to the four whats are told by the other calls, too. */
  private static void searchedIsAsPlanetsAndTogether() {
    Due.by("SEARCHED (ab: 100 times a, and b; uw likewise): how many SETS are so (what 0; 0 is no NOT),"
        + " of the first one SUN (1), PLANET (2), TEETH together (3).");
    searchedIs(1230, 3, 3510, 5, 2, 24, 18, 138);
    Due.by("whose RATIO SUN to CARRIER, RING held, is within t thousandths");
    for (int uw : new int[] {301, 401, 501, 702, 1103, 1705, 2307, 4913, 9920}) {
      for (int k = 1; k <= 5; k++) {
        PinionBench x = new PinionBench();
        int found = x.searched(560, k, uw, 3, 0), sun = x.searched(560, k, uw, 3, 1), planet = x.searched(560, k, uw, 3, 2);
        String call = "searched(560, " + k + ", " + uw + ", 3), " + sun + " by " + planet;
        Due.is(call + ", found", found > 0 ? 1 : 0, sun > 0 ? 1 : 0);
        if (found > 0) {
          Due.is(call + ", teeth", x.searched(560, k, uw, 3, 3), sun + k * planet + sun + 2 * planet);
          Due.is(call + ", together", x.together(sun, planet, k), 1);
          long above = x.planets(sun, planet, 0, 2, 0), below = x.planets(sun, planet, 0, 2, 1);
          long u = uw / 100, w = uw % 100;
          Due.is(call + ", near", Math.abs(above * w - u * below) * 1000 <= 3 * u * below ? 1 : 0, 1);
        }
      }
    }
  }

  private static void searchedIs(int ab, int k, int uw, int t, int found, int sun, int planet, int teeth) {
    int[] due = {found, sun, planet, teeth};
    for (int what = 0; what < 4; what++) {
      String call = "searched(" + ab + ", " + k + ", " + uw + ", " + t + ", " + what + ")";
      Due.is(call, new PinionBench().searched(ab, k, uw, t, what), due[what]);
    }
  }

  private static void searchedBad(int ab, int k, int uw, int t) {
    searchedIs(ab, k, uw, t, BAD, BAD, BAD, BAD);
  }

  private static void spans() {
    Due.by("SETS with SUN, PLANETS from a to b (5 .. 60)");
    searchedIs(505, 1, 401, 0, 1, 5, 5, 25);
    searchedIs(560, 1, 401, 0, 56, 5, 5, 25);
    searchedIs(6060, 1, 401, 0, 1, 60, 60, 300);
    for (int ab : new int[] {405, 404, 460, 504, 561, 599, 600, 604, 5961, 6061, 6161, 6160, 10505, 5, 60, 0, -1, -505, -560, MIN, MAX}) {
      searchedBad(ab, 1, 401, 0);
    }
    Due.by("BAD: a, b (a above b, too), k, u, w, t, what; NOT.");
    searchedIs(606, 1, 401, 0, 1, 6, 6, 30);
    searchedBad(605, 1, 401, 0);
    searchedBad(6059, 1, 401, 0);
    searchedBad(6005, 1, 401, 0);
    for (int what : new int[] {MIN, -1, 4, MAX}) {
      Due.is("what " + what, new PinionBench().searched(505, 1, 401, 0, what), BAD);
    }
    Twins.noTrace("searched", Twins::used, x -> x.searched(461, 1, 401, 0, 0), BAD);
    Twins.noTrace("searched", Twins::used, x -> x.searched(560, 3, 401, 20, 1), 6);
  }

  /** 5 by 60 and 60 by 5 stand at the corners, and nothing else has their ratio. */
  private static void spanHoldsItsEnds() {
    Due.by("SUN, PLANETS from a to b");
    searchedIs(560, 1, 2601, 0, 1, 5, 60, 190);
    searchedIs(559, 1, 2601, 0, 0, NOT, NOT, NOT);
    searchedIs(660, 1, 2601, 0, 0, NOT, NOT, NOT);
    searchedIs(560, 1, 2612, 0, 1, 60, 5, 135);
    searchedIs(559, 1, 2612, 0, 0, NOT, NOT, NOT);
    searchedIs(660, 1, 2612, 0, 0, NOT, NOT, NOT);
  }

  private static void searchedPlanets() {
    Due.by("k PLANETS, that can be PUT TOGETHER");
    searchedIs(560, 1, 401, 0, 56, 5, 5, 25);
    searchedIs(560, 6, 401, 0, 0, NOT, NOT, NOT);
    // Of 13 by 5 only 40 and 12 have 104 teeth, which 8 divides; of 34 by 15 there is 60 and 8 alone.
    searchedIs(560, 8, 1305, 0, 1, 40, 12, 200);
    searchedIs(560, 8, 3415, 0, 1, 60, 8, 200);
    // 50 and 5 have 110 teeth.
    searchedIs(560, 8, 1105, 0, 0, NOT, NOT, NOT);
    for (int k : new int[] {MIN, -1, 0, 9, MAX}) {
      searchedBad(560, k, 401, 0);
    }
  }

  private static void told() {
    Due.by("of a told u by w (1 .. 99 each)");
    searchedIs(505, 1, 9925, 11, 1, 5, 5, 25);
    searchedIs(560, 1, 9999, 0, 0, NOT, NOT, NOT);
    searchedIs(560, 1, 101, 200, 0, NOT, NOT, NOT);
    for (int uw : new int[] {MIN, -401, -1, 0, 1, 99, 100, 400, 9900, 10000, 10001, 10099, 40001, MAX}) {
      searchedBad(560, 1, uw, 200);
    }
    // 99 by 33 is 3: the sun has twice the planet's teeth, 10 .. 60. 1 by 99, and 99 by 99, are below any ratio.
    searchedIs(560, 1, 9933, 0, 26, 10, 5, 35);
    searchedIs(560, 1, 199, 200, 0, NOT, NOT, NOT);
  }

  private static void thousandths() {
    Due.by("is within t thousandths (0 .. 200)");
    searchedIs(505, 1, 401, 0, 1, 5, 5, 25);
    searchedIs(505, 1, 501, 200, 1, 5, 5, 25);
    searchedBad(505, 1, 401, -1);
    searchedBad(505, 1, 501, 201);
    searchedBad(505, 1, 501, MIN);
    searchedBad(505, 1, 501, MAX);
  }

  /** 4 against 5 (200 thousandths just), 32 by 9, 41 by 10; above and below. */
  private static void within() {
    Due.by("|RATIO * w - u| * 1000 <= u * t, as fractions");
    searchedIs(505, 1, 501, 200, 1, 5, 5, 25);
    searchedIs(505, 1, 501, 199, 0, NOT, NOT, NOT);
    searchedIs(505, 1, 3209, 125, 1, 5, 5, 25);
    searchedIs(505, 1, 3209, 124, 0, NOT, NOT, NOT);
    searchedIs(505, 1, 4110, 25, 1, 5, 5, 25);
    searchedIs(505, 1, 4110, 24, 0, NOT, NOT, NOT);
    // 1 of 99 is 10 thousandths and a tenth: 10 are too few.
    searchedIs(505, 1, 9925, 11, 1, 5, 5, 25);
    searchedIs(505, 1, 9925, 10, 0, NOT, NOT, NOT);
    // 1000 on the one side, 999 or 1036 on the other.
    searchedIs(505, 1, 3709, 28, 1, 5, 5, 25);
    searchedIs(505, 1, 3709, 27, 0, NOT, NOT, NOT);
    searchedIs(505, 1, 1003, 200, 1, 5, 5, 25);
    searchedIs(505, 1, 1003, 199, 0, NOT, NOT, NOT);
  }

  private static void badAheadOfNone() {
    Due.by("(what 0; 0 is no NOT)");
    searchedIs(560, 2, 5201, 200, 0, NOT, NOT, NOT);
    Due.by("of several the first as the call's words name them");
    for (int what : new int[] {MIN, -1, 4, MAX}) {
      Due.is("none, what " + what, new PinionBench().searched(560, 2, 5201, 200, what), BAD);
    }
    searchedBad(560, 2, 5201, 201);
    searchedBad(560, 9, 5201, 200);
  }

  private static void noneAtAll() {
    Due.by("with none what 0 answers 0, the others NOT.");
    PinionBench x = new PinionBench();
    int[] some = {19, 6, 6, 42}, none = {0, NOT, NOT, NOT};
    // One search leaves nothing for the next one.
    for (int what = 0; what < 4; what++) {
      Due.is("some, what " + what, x.searched(560, 3, 401, 0, what), some[what]);
      Due.is("none, what " + what, x.searched(560, 2, 5201, 200, what), none[what]);
    }
  }

  private static void notInLowestTerms() {
    Due.by("searched(): u by w need not be in lowest terms");
    for (int times : new int[] {1, 2, 3, 24}) {
      searchedIs(560, 3, 401 * times, 20, 49, 6, 6, 42);
    }
    searchedIs(505, 1, 9924, 30, 0, NOT, NOT, NOT);
    searchedIs(505, 1, 9924, 31, 1, 5, 5, 25);
    searchedIs(505, 1, 3308, 30, 0, NOT, NOT, NOT);
    searchedIs(505, 1, 3308, 31, 1, 5, 5, 25);
  }

  private static void firstByMiss() {
    Due.by("the first by least |RATIO * w - u|");
    // Far more teeth, but nearer: 24 by 18 is 3.5 just; 3.6 is as near as 5 .. 6 come.
    searchedIs(1230, 3, 3510, 5, 2, 24, 18, 138);
    searchedIs(506, 1, 4210, 200, 4, 5, 5, 25);
    searchedIs(506, 1, 4310, 200, 4, 5, 6, 28);
  }

  private static void firstByTeeth() {
    Due.by("then by fewest TEETH together (of the SUN, k PLANETS, the RING)");
    // All of 4 just: the fewest teeth are of 5 by 5, and with three planets 6 by 6 is the first that can be.
    searchedIs(560, 1, 401, 0, 56, 5, 5, 25);
    searchedIs(560, 3, 401, 0, 19, 6, 6, 42);
    // As far above as below: 7 by 5 has more sun, but fewer teeth than 5 by 7.
    searchedIs(507, 3, 2607, 77, 2, 7, 5, 39);
  }

  /** Two that are as far off never have as many teeth, 5 .. 60: the third order is seen nowhere, and rules out nothing. */
  private static void firstBySun() {
    Due.by(", then by the SUN's.");
    // Of one ratio the least sun has the fewest teeth.
    searchedIs(560, 2, 401, 0, 56, 5, 5, 30);
    searchedIs(660, 2, 401, 0, 55, 6, 6, 36);
    searchedIs(560, 1, 301, 0, 26, 10, 5, 35);
    searchedIs(560, 1, 601, 0, 26, 5, 10, 40);
  }

  private static void searchedMustStandTogether() {
    Due.by("SEARCHED: SETS with SUN, PLANETS from a to b (5 .. 60), k PLANETS, that can be PUT TOGETHER");
    for (int k = 1; k <= 8; k++) {
      int found = 0;
      for (int s = 5; s <= 20; s++) {
        PinionBench x = new PinionBench();
        for (int p = 5; p <= 20; p++) {
          int off = Math.abs((2 * s + 2 * p) * 2 - 7 * s);
          found += off * 1000 <= 7 * 150 * s && x.together(s, p, k) == 1 ? 1 : 0;
        }
      }
      Due.is("searched(520, " + k + ", 702, 150, 0)", new PinionBench().searched(520, k, 702, 150, 0), found);
    }
  }
}
