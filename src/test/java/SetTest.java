/** Promises 17 to 20: sets of a sun, planets and a ring. */
public final class SetTest {
  private static final long VOID = PinionBench.VOID;
  private static final int BAD = PinionBench.BAD, NOT = PinionBench.NOT;
  private static final int MAX = Integer.MAX_VALUE, MIN = Integer.MIN_VALUE;

  private static final PinionBench X = new PinionBench();

  public static void main(String[] args) {
    together();
    touching();
    refused();
    planets();
    planetsRefused();
    searched();
    searchedRefused();
    searchedEdges();
    Due.close("SetTest");
  }

  /** Promises 17 and 18. */
  private static void together() {
    int[][] sets = {{20, 10}, {5, 5}, {5, 99}, {99, 5}, {99, 99}, {21, 15}, {16, 12}, {30, 12}, {12, 31}};
    int[] most = {6, 4, 2, 8, 4, 6, 4, 7, 2};
    int[][] due = {
      {1, 1, 1, 1, 1, 1, -1, -3}, {1, 1, -1, 1, -2, -3, -3, -3}, {1, 1, -3, -2, -3, -3, -3, -2},
      {1, 1, -1, 1, -1, -1, -1, 1}, {1, 1, 1, 1, -1, -2, -3, -3}, {1, 1, 1, 1, -1, 1, -3, -2},
      {1, 1, -1, 1, -1, -3, -2, -2}, {1, 1, 1, 1, -1, 1, 1, -1}, {1, 1, -1, -3, -3, -3, -3, -3}};
    for (int i = 0; i < sets.length; i++) {
      int s = sets[i][0], p = sets[i][1];
      for (int k = 1; k <= 8; k++) {
        Due.is("17 together(" + s + ", " + p + ", " + k + ")", X.together(s, p, k), due[i][k - 1]);
      }
      Due.is("18 most(" + s + ", " + p + ")", X.most(s, p), most[i]);
    }
  }

  /** Promise 17: just not touching, or just touching, by each sine. */
  private static void touching() {
    int[][] due = {
      {5, 99, 2, 1}, {15, 82, 3, -1}, {6, 24, 3, -2}, {19, 39, 4, 1}, {43, 97, 4, -2}, {21, 25, 5, -1},
      {66, 89, 5, -2}, {10, 5, 6, 1}, {11, 7, 6, -2}, {9, 5, 6, -3}, {57, 40, 7, -1}, {74, 53, 7, -3},
      {91, 53, 8, 1}, {57, 32, 8, -3}};
    for (int[] d : due) {
      Due.is("17 together(" + d[0] + ", " + d[1] + ", " + d[2] + ")", X.together(d[0], d[1], d[2]), d[3]);
    }
  }

  /** Promises 17 and 18. */
  private static void refused() {
    for (int bad : new int[] {4, 100, 0, -5, -20, MAX, MIN}) {
      Due.is("17 sun " + bad, X.together(bad, 10, 2), -1000);
      Due.is("17 planet " + bad, X.together(20, bad, 2), -1000);
      Due.is("18 sun " + bad, X.most(bad, 10), BAD);
      Due.is("18 planet " + bad, X.most(20, bad), BAD);
    }
    for (int bad : new int[] {0, 9, -1, MAX, MIN}) {
      Due.is("17 k " + bad, X.together(20, 10, bad), -1000);
    }
  }

  private static void planetsIs(int sun, int planet, int drives, int held, long above, long below) {
    String call = "19 planets(" + sun + ", " + planet + ", " + drives + ", " + held + ", ";
    Due.is(call + "0)", X.planets(sun, planet, drives, held, 0), above);
    Due.is(call + "1)", X.planets(sun, planet, drives, held, 1), below);
  }

  /** Promise 19: rings of 51 and of 297 teeth. */
  private static void planets() {
    planetsIs(21, 15, 0, 1, -17, 7);
    planetsIs(21, 15, 2, 1, -7, 17);
    planetsIs(21, 15, 0, 2, 24, 7);
    planetsIs(21, 15, 1, 2, 7, 24);
    planetsIs(21, 15, 2, 0, 24, 17);
    planetsIs(21, 15, 1, 0, 17, 24);
    planetsIs(99, 99, 0, 1, -3, 1);
    planetsIs(99, 99, 0, 2, 4, 1);
    planetsIs(99, 99, 2, 0, 4, 3);
    planetsIs(99, 98, 1, 0, 295, 394);
    planetsIs(5, 99, 0, 1, -203, 5);
  }

  private static void planetsRefused() {
    for (int role = 0; role < 3; role++) {
      planetsIs(20, 10, role, role, VOID, VOID);
    }
    for (int bad : new int[] {-1, 3, MAX, MIN}) {
      planetsIs(20, 10, bad, 1, VOID, VOID);
      planetsIs(20, 10, 1, bad, VOID, VOID);
      planetsIs(20, 10, bad, bad, VOID, VOID);
    }
    for (int bad : new int[] {4, 100, 0, -20, MAX, MIN}) {
      planetsIs(bad, 10, 0, 1, VOID, VOID);
      planetsIs(20, bad, 0, 1, VOID, VOID);
    }
    for (int bad : new int[] {-1, 2, MAX, MIN}) {
      Due.is("19 part " + bad, X.planets(20, 10, 0, 1, bad), VOID);
    }
  }

  private static void searchedIs(int ab, int k, int uw, int t, int found, int sun, int planet, int teeth) {
    int[] due = {found, sun, planet, teeth};
    for (int what = 0; what < 4; what++) {
      String call = "20 searched(" + ab + ", " + k + ", " + uw + ", " + t + ", " + what + ")";
      Due.is(call, X.searched(ab, k, uw, t, what), due[what]);
    }
  }

  /** Promise 20. */
  private static void searched() {
    searchedIs(560, 3, 401, 0, 19, 6, 6, 42);
    searchedIs(560, 3, 401, 20, 49, 6, 6, 42);
    searchedIs(560, 3, 802, 20, 49, 6, 6, 42);
    searchedIs(1230, 3, 3510, 5, 2, 24, 18, 138);
    searchedIs(1060, 4, 3709, 1, 3, 36, 38, 300);
    searchedIs(1060, 5, 802, 0, 10, 15, 15, 135);
    // Two are as far off, the one with more teeth comes first by its sun.
    searchedIs(507, 3, 2607, 77, 2, 7, 5, 39);
    searchedIs(507, 3, 2607, 76, 0, NOT, NOT, NOT);
    searchedIs(507, 3, 2205, 200, 2, 6, 6, 42);
    searchedIs(560, 1, 2601, 0, 1, 5, 60, 190);
    searchedIs(560, 2, 5201, 200, 0, NOT, NOT, NOT);
    searchedIs(1230, 3, 3510, 0, 1, 24, 18, 138);
    searchedIs(1830, 4, 4311, 74, 41, 30, 28, 228);
    searchedIs(2630, 2, 8320, 81, 22, 27, 29, 170);
    searchedIs(2435, 5, 2306, 150, 25, 34, 31, 285);
    searchedIs(817, 1, 6421, 158, 22, 17, 9, 61);
  }

  /** Promise 20: what is BAD is so for each what. */
  private static void searchedRefused() {
    for (int what = 0; what < 4; what++) {
      for (int ab : new int[] {460, 561, 2019, 5, 60, 500, 504, 0, -560, -1, 6160, 10560, MAX, MIN}) {
        Due.is("20 ab " + ab, X.searched(ab, 3, 401, 20, what), BAD);
      }
      for (int k : new int[] {0, 9, -1, MAX, MIN}) {
        Due.is("20 k " + k, X.searched(560, k, 401, 20, what), BAD);
      }
      for (int uw : new int[] {1, 99, 100, 400, 9900, 10001, 0, -401, -1, MAX, MIN}) {
        Due.is("20 uw " + uw, X.searched(560, 3, uw, 20, what), BAD);
      }
      for (int t : new int[] {-1, 201, MAX, MIN}) {
        Due.is("20 t " + t, X.searched(560, 3, 401, t, what), BAD);
      }
    }
    for (int what : new int[] {-1, 4, MAX, MIN}) {
      Due.is("20 what " + what, X.searched(560, 3, 401, 20, what), BAD);
      Due.is("20 none, what " + what, X.searched(560, 2, 5201, 200, what), BAD);
    }
  }

  /** Promise 20: the ends of each number's range are taken. */
  private static void searchedEdges() {
    searchedIs(505, 1, 401, 0, 1, 5, 5, 25);
    searchedIs(6060, 4, 401, 0, 1, 60, 60, 480);
    searchedIs(6060, 5, 401, 0, 1, 60, 60, 540);
    searchedIs(6060, 6, 401, 0, 0, NOT, NOT, NOT);
    searchedIs(505, 1, 101, 200, 0, NOT, NOT, NOT);
    searchedIs(560, 1, 9999, 0, 0, NOT, NOT, NOT);
    searchedIs(505, 8, 401, 200, 0, NOT, NOT, NOT);
    searchedIs(505, 1, 501, 200, 1, 5, 5, 25);
    searchedIs(505, 1, 501, 199, 0, NOT, NOT, NOT);
  }
}
