/** Promises 21 and 22: the tape, and the acts told in it. */
public final class TextTest {
  private static final int BAD = PinionBench.BAD;

  public static void main(String[] args) {
    feed();
    faults();
    acts();
    refused();
    rollsBack();
    fullTape();
    Due.close("TextTest");
  }

  /** Promise 21. */
  private static void feed() {
    PinionBench x = new PinionBench();
    int[] bad = {31, 127, 0, -1, 10, 200, Integer.MAX_VALUE, Integer.MIN_VALUE};
    for (int letter : bad) {
      Due.is("21 feed(" + letter + ")", x.feed(letter), BAD);
    }
    Due.is("21 feed(32)", x.feed(32), 1);
    Due.is("21 feed(126)", x.feed(126), 2);
    for (int i = 3; i <= 80; i++) {
      Due.is("21 feed " + i, x.feed('x'), i);
    }
    Due.is("21 feed 81", x.feed('x'), PinionBench.FULL);
    Due.is("21 BAD ahead of FULL", x.feed(31), BAD);
    Due.is("21 count(2)", x.count(2), 80);
  }

  private static void readIs(PinionBench x, String text, int due) {
    Due.is("22 \"" + text + "\"", Due.read(x, text), due);
    Due.is("22 \"" + text + "\" left on the tape", x.count(2), 0);
  }

  /** Promise 22: the fault is the first byte with which no text goes on, or the length. */
  private static void faults() {
    PinionBench x = Due.bench(20, 40);
    Object[][] due = {
      {"", 0}, {"y", 0}, {" x", 0}, {";", 0}, {"W 20", 0}, {"-", 0}, {"5", 0},
      {"w", 1}, {"w20", 1}, {"w-20", 1}, {"w ", 2}, {"w  20", 2}, {"w -", 3}, {"w --20", 3}, {"w - 20", 3},
      {"w +20", 2}, {"w ,", 2}, {"w 20 ", 4}, {"w 20,", 4}, {"w 2000", 5}, {"w -2000", 6}, {"w 2-", 3},
      {"w 20;", 5}, {"w 20;;x", 5}, {"w 20; x", 5}, {"w 20x", 4}, {"w 0000", 5},
      {"s", 1}, {"s ", 2}, {"s -0,1", 2}, {"s 0", 3}, {"s 0;", 3}, {"s 0,", 4}, {"s 0, 1", 4}, {"s 0,-", 5},
      {"s 0,--1", 5}, {"s 0,1-", 5}, {"s 0,1000", 7}, {"s 0000,1", 5}, {"s 0,1,1", 5}, {"s ,1", 2}, {"s 0 ,1", 3},
      {"p", 1}, {"p ", 2}, {"p -1", 2}, {"p 1,", 3}, {"p 0001", 5}, {"p1", 1},
      {"t", 1}, {"t ", 2}, {"t 0", 3}, {"t 0,", 4}, {"t 0,-1", 4}, {"t -0,1", 2}, {"t 0;1", 3}, {"t 0,1,", 5},
      {"t 0,0001", 7}, {"t 0000,1", 5}, {"t 0001", 5},
      {"x ", 1}, {"x0", 1}, {"x,", 1}, {"xx", 1}, {"x;", 2}, {"x;;", 2}, {"x;y", 2}, {"x;x ", 3}, {"x;w 30;p", 8}};
    for (Object[] d : due) {
      readIs(x, (String) d[0], -100 - (Integer) d[1]);
    }
    Due.is("22 no wheel came", x.count(0), 2);
    Due.is("22 no pair came", x.count(1), 0);
    Due.is("22 the pressure stays", x.count(3), 1);
  }

  /** Promise 22: texts that are done. */
  private static void acts() {
    PinionBench x = new PinionBench();
    readIs(x, "w 20", 1);
    readIs(x, "w -60;w 005;w 5;w 99", 4);
    int[] teeth = {20, -60, 5, 5, 99};
    for (int i = 0; i < teeth.length; i++) {
      Due.is("22 of(" + i + ", 0)", x.of(i, 0), teeth[i]);
    }
    readIs(x, "s 0,-50;s 001,100;s 2,-0;s 3,07", 4);
    int[] shifts = {-50, 100, 0, 7, 0};
    for (int i = 0; i < shifts.length; i++) {
      Due.is("22 of(" + i + ", 1)", x.of(i, 1), shifts[i]);
    }
    readIs(x, "p 2", 1);
    Due.is("22 count(3)", x.count(3), 2);
    readIs(x, "p 000;p 1;p 0", 3);
    Due.is("22 count(3)", x.count(3), 0);
    readIs(x, "t 0,1;t 004,000", 2);
    Due.is("22 train(0)", x.train(0), -20);
    Due.is("22 train(1)", x.train(1), 33);
    Due.is("22 count(1)", x.count(1), 2);
    Due.is("22 of(4, 5)", x.of(4, 5), 1);
    readIs(x, "x", 1);
    Due.is("22 count(1)", x.count(1), 0);
    readIs(x, "x;x", 2);
    readIs(x, "w 30;t 5,0;s 5,9;x;t 0,5;t 5,0", 6);
    Due.is("22 each sees those ahead", x.of(5, 1), 9);
    Due.is("22 count(1)", x.count(1), 2);
    Due.is("22 train(1)", x.train(1), 1);
    readIs(x, "w 59;t 1,6", 2);
    Due.is("22 a pair that clashes comes", x.faulty(), 2);
  }

  /** Promise 22: acts that the call would refuse. */
  private static void refused() {
    PinionBench x = Due.bench(20, 40, -60, -70);
    String[] bad = {
      "w 4", "w 100", "w 0", "w -0", "w -19", "w -100", "w -5", "w 999", "s 4,0", "s 0,101", "s 0,-51", "s 999,0",
      "p 3", "p 999", "t 0,0", "t 0,4", "t 4,0", "t 2,3", "t 999,0"};
    for (String b : bad) {
      readIs(x, b, -200);
      readIs(x, "x;p 0;p 2;" + b + ";w 30", -203);
      readIs(x, b + ";y", -101 - b.length());
    }
    Due.is("22 count(0)", x.count(0), 4);
    Due.is("22 count(3)", x.count(3), 1);
    readIs(x, "w 4;w 4", -200);
    readIs(x, "s 4,0;w 20", -200);
    readIs(x, "w 20;s 5,0;w 20", -201);
  }

  /** Promise 22: a text that is refused leaves nothing behind. */
  private static void rollsBack() {
    PinionBench x = Due.bench(20, 40, -60);
    readIs(x, "s 1,30;p 0;t 0,1;t 1,2", 4);
    x.image();
    readIs(x, "s 1,-30;s 0,1;p 2;x;t 2,0;w 30;s 3,7;t 0,0", -207);
    Due.is("22 back, count(0)", x.count(0), 3);
    Due.is("22 back, count(1)", x.count(1), 2);
    Due.is("22 back, count(3)", x.count(3), 0);
    Due.is("22 back, of(0, 1)", x.of(0, 1), 0);
    Due.is("22 back, of(1, 1)", x.of(1, 1), 30);
    Due.is("22 back, of(3, 0)", x.of(3, 0), -1000);
    Due.is("22 back, of(0, 5)", x.of(0, 5), 1);
    Due.is("22 back, train(0)", x.train(0), -3);
    Due.is("22 a new wheel has no shift", x.wheel(30), 3);
    Due.is("22 a new wheel has no shift", x.of(3, 1), 0);
    Due.is("22 the image is as it was", x.undo(), 3);
  }

  /** Promises 21 and 22: what fits on the tape, and what fills the bench. */
  private static void fullTape() {
    PinionBench x = Due.bench(20, 40);
    StringBuilder text = new StringBuilder("x");
    for (int i = 1; i < 40; i++) {
      text.append(";x");
    }
    readIs(x, text.toString(), 40);
    readIs(x, text + ";", -180);
    readIs(x, text + "x", -179);
    readIs(x, "x;t 0,1;t 0,1;t 0,1;t 0,1;t 0,1;t 0,1;t 0,1;t 0,1;t 0,1;t 0,1;x", -210);
    readIs(x, "t 0,1;t 0,1;t 0,1;t 0,1;t 0,1;t 0,1;t 0,1;t 0,1;t 1,0", 9);
    readIs(x, "t 0,1", -200);
    readIs(x, "x;t 0,1", 2);
    readIs(x, "w 5;w 5;w 5;w 5;w 5;w 5;w 5;w 5;w 5;w 5;w 5;w 5;w 5;w 5;w 5", -214);
    Due.is("22 count(0)", x.count(0), 2);
    readIs(x, "w 5;w 5;w 5;w 5;w 5;w 5;w 5;w 5;w 5;w 5;w 5;w 5;w 5;w 5", 14);
    readIs(x, "x;w 5", -201);
    Due.is("22 the train stays", x.count(1), 1);
  }
}
