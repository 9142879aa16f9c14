/** Promises 21 and 22, and what the Terms say of the tape and its texts: each sentence that names an edge. */
public final class TextEdgeTest {
  private static final int BAD = PinionBench.BAD, FULL = PinionBench.FULL, NOT = PinionBench.NOT;
  private static final int MAX = Integer.MAX_VALUE, MIN = Integer.MIN_VALUE;

  public static void main(String[] args) {
    bytesTaken();
    eightyBytes();
    badAheadOfFull();
    nothingOnTheTape();
    oneOrMore();
    mostActs();
    figures();
    fourthFigure();
    numbersBeginWithNothing();
    minus();
    minusNothing();
    nothingBehindX();
    blankAndComma();
    semicolons();
    letters();
    endsTooEarly();
    eachByteAtEachPlace();
    refusedWheels();
    refusedShifts();
    refusedPressures();
    refusedPairs();
    refusedAheads();
    refusedAsFull();
    sees();
    emptiesTheTrain();
    nothingIsDone();
    faultAheadOfRefusal();
    faultsAndRefusalsByTheirPlace();
    tapeIsEmpty();
    tapeStays();
    Due.close("TextEdgeTest");
  }

  private static void readIs(PinionBench x, String text, int due) {
    Due.is("\"" + text + "\"", Due.read(x, text), due);
    Due.is("\"" + text + "\" left on the tape", x.count(2), 0);
  }

  /** On a bench of 20, 40, -60. */
  private static void textIs(String text, int due) {
    readIs(Due.bench(20, 40, -60), text, due);
  }

  /** A fault at that place. */
  private static void faultIs(String text, int place) {
    textIs(text, -100 - place);
  }

  /** How often a piece of a text, parted by a semicolon. */
  private static String times(int n, String act) {
    StringBuilder text = new StringBuilder();
    for (int i = 0; i < n; i++) {
      text.append(i == 0 ? "" : ";").append(act);
    }
    return text.toString();
  }

  private static void bytesTaken() {
    Due.by("THE TAPE holds 0 .. 80 bytes 32 .. 126.");
    for (int letter = -10; letter <= 300; letter++) {
      PinionBench x = new PinionBench();
      boolean good = letter >= 32 && letter <= 126;
      Due.is("feed(" + letter + ")", x.feed(letter), good ? 1 : BAD);
      Due.is("count(2)", x.count(2), good ? 1 : 0);
    }
    for (int letter : new int[] {MIN, -1, 0, 31, 127, 256 + 32, 65536 + 120, MAX}) {
      Twins.noTrace("feed(" + letter + ")", Twins::used, x -> x.feed(letter), BAD);
    }
  }

  private static void eightyBytes() {
    Due.by("THE TAPE holds 0 .. 80 bytes");
    PinionBench x = new PinionBench();
    for (int turn = 0; turn < 2; turn++) {
      Due.is("count(2) of none", x.count(2), 0);
      for (int i = 1; i <= 80; i++) {
        Due.is("feed " + i, x.feed(i % 2 == 1 ? 'x' : ';'), i);
      }
      Due.is("the 81st", x.feed('x'), FULL);
      Due.is("count(2)", x.count(2), 80);
      Due.is("read()", x.read(), -180);
    }
    Twins.noTrace("the 81st", Twins::full, y -> y.feed(';'), FULL);
  }

  private static void badAheadOfFull() {
    Due.by("A byte comes behind THE TAPE: how many it has. BAD; FULL.");
    for (int letter : new int[] {MIN, 31, 127, MAX}) {
      Twins.noTrace("feed(" + letter + ") of 80", Twins::full, x -> x.feed(letter), BAD);
    }
    Twins.noTrace("feed(32) of 80", Twins::full, x -> x.feed(32), FULL);
    Twins.noTrace("feed(126) of 80", Twins::full, x -> x.feed(126), FULL);
  }

  private static void nothingOnTheTape() {
    Due.by("FAULT: the first byte with which no such text goes on, or the length, if it ends too early: -100 less it.");
    Due.is("read() of a new object", new PinionBench().read(), -100);
    PinionBench x = Due.bench(20);
    Due.is("read() of nothing", x.read(), -100);
    readIs(x, "x", 1);
    Due.is("read() again", x.read(), -100);
    Twins.noTrace("read() of nothing", Twins::usedButForTheTape, PinionBench::read, -100);
  }

  private static void oneOrMore() {
    Due.by("A TEXT: ACTS, one or more, parted by ;");
    for (int n = 1; n <= 40; n++) {
      textIs(times(n, "x"), n);
    }
    textIs("w 5", 1);
    textIs("s 0,1", 1);
    textIs("p 0", 1);
    textIs("t 0,1", 1);
  }

  private static void mostActs() {
    Due.by("`int read()`: THE TAPE, which is empty then, is a TEXT: how many ACTS.");
    textIs(times(40, "x"), 40);
    textIs(times(20, "p 2"), 20);
    textIs(times(39, "x") + ";p", -179);
    textIs(times(39, "x") + ";p ", -180);
    textIs(times(40, "x") + ";", -180);
    textIs(times(40, "x") + "x", -179);
  }

  private static void figures() {
    Due.by("numbers of 1 to 3 figures.");
    faultIs("p ", 2);
    textIs("p 2", 1);
    textIs("p 02", 1);
    textIs("p 002", 1);
    faultIs("p 0002", 5);
    faultIs("s 0,", 4);
    textIs("s 0,1", 1);
    textIs("s 00,01", 1);
    textIs("s 000,001", 1);
    textIs("s 000,-01", 1);
    textIs("s 000,-050", 1);
    textIs("w 099", 1);
    textIs("w -099", 1);
    textIs("t 001,002", 1);
  }

  private static void fourthFigure() {
    Due.by("a 4th figure is the FAULT");
    faultIs("w 0020", 5);
    faultIs("w -0020", 6);
    faultIs("w 1000", 5);
    faultIs("s 0000,1", 5);
    faultIs("s 0,0001", 7);
    faultIs("s 0,-0001", 8);
    faultIs("s 0,1000", 7);
    faultIs("p 0001", 5);
    faultIs("t 0000,1", 5);
    faultIs("t 0,0001", 7);
    faultIs("x;x;p 0000", 9);
    // Three figures are none, though no such call is taken.
    textIs("w 999", -200);
    textIs("w -999", -200);
    textIs("s 999,999", -200);
    textIs("p 999", -200);
    textIs("t 999,999", -200);
  }

  private static void numbersBeginWithNothing() {
    Due.by("A number may begin with 0 (005 is 5).");
    PinionBench x = new PinionBench();
    readIs(x, "w 005;w 05;w -020;w 5", 4);
    int[] teeth = {5, 5, -20, 5};
    for (int i = 0; i < 4; i++) {
      Due.is("of(" + i + ", 0)", x.of(i, 0), teeth[i]);
    }
    readIs(x, "s 000,007;s 01,-007;p 000;t 002,000", 4);
    Due.is("of(0, 1)", x.of(0, 1), 7);
    Due.is("of(1, 1)", x.of(1, 1), -7);
    Due.is("count(3)", x.count(3), 0);
    Due.is("train(1)", x.train(1), 4);
  }

  private static void minus() {
    Due.by("A - stands only ahead of TEETH of w and of the SHIFT of s");
    textIs("w -20", 1);
    textIs("s 0,-20", 1);
    faultIs("s -0,20", 2);
    faultIs("p -1", 2);
    faultIs("p -0", 2);
    faultIs("t -0,1", 2);
    faultIs("t 0,-1", 4);
    faultIs("x-", 1);
    faultIs("-", 0);
    faultIs("w --20", 3);
    faultIs("s 0,--1", 5);
    faultIs("w -", 3);
    faultIs("s 0,-", 5);
    faultIs("w 2-0", 3);
    faultIs("w - 20", 3);
    faultIs("w-20", 1);
    faultIs("w -;x", 3);
    faultIs("w +20", 2);
  }

  private static void minusNothing() {
    Due.by("(-0 is 0)");
    PinionBench x = Due.bench(20);
    x.shift(0, 9);
    readIs(x, "s 0,-0", 1);
    Due.is("of(0, 1)", x.of(0, 1), 0);
    x.shift(0, 9);
    readIs(x, "s 0,-000", 1);
    Due.is("of(0, 1)", x.of(0, 1), 0);
    // As TEETH, 0 is none.
    readIs(x, "w -0", -200);
    readIs(x, "w 0", -200);
  }

  private static void nothingBehindX() {
    Due.by("x has nothing behind it.");
    textIs("x", 1);
    textIs("x;x", 2);
    faultIs("x ", 1);
    faultIs("x ;x", 1);
    faultIs("x 0", 1);
    faultIs("x0", 1);
    faultIs("x,", 1);
    faultIs("xx", 1);
    faultIs("x;x ", 3);
  }

  private static void blankAndComma() {
    Due.by("One blank behind the letter, a comma between");
    for (String letter : new String[] {"w", "s", "p", "t"}) {
      faultIs(letter, 1);
      faultIs(letter + "2", 1);
      faultIs(letter + " ", 2);
      faultIs(letter + "  2", 2);
      faultIs(letter + " ,2", 2);
      faultIs(" " + letter + " 2", 0);
    }
    faultIs("w 20 ", 4);
    faultIs("w 20,", 4);
    faultIs("p 2,", 3);
    for (String letter : new String[] {"s", "t"}) {
      textIs(letter + " 0,1", 1);
      faultIs(letter + " 0", 3);
      faultIs(letter + " 0 1", 3);
      faultIs(letter + " 0;x", 3);
      faultIs(letter + " 0 ,1", 3);
      faultIs(letter + " 0, 1", 4);
      faultIs(letter + " 0,,1", 4);
      faultIs(letter + " 0,1,", 5);
      faultIs(letter + " 0,1 ", 5);
      faultIs(letter + " 0,;x", 4);
    }
  }

  private static void semicolons() {
    Due.by("ACTS, one or more, parted by ;");
    faultIs(";", 0);
    faultIs(";x", 0);
    faultIs("x;", 2);
    faultIs("x;;x", 2);
    faultIs("x; x", 2);
    faultIs("x;x;", 4);
    faultIs("x,x", 1);
    faultIs("w 20w 20", 4);
    faultIs("w 20;", 5);
    faultIs("p 1:x", 3);
  }

  private static void letters() {
    Due.by("w TEETH (a WHEEL; a - ahead of a RING's), s WHEEL, SHIFT (with - or none), p PRESSURE, t WHEEL, WHEEL");
    for (int letter = 32; letter <= 126; letter++) {
      boolean starts = "wsptx".indexOf(letter) >= 0;
      faultIs((char) letter + "~", starts ? 1 : 0);
      faultIs("x;" + (char) letter + "~", starts ? 3 : 2);
    }
  }

  /** A good text cut short at each place: the length is the fault, but where an ACT is whole. */
  private static void endsTooEarly() {
    Due.by("or the length, if it ends too early");
    String text = "w -20;s 0,-9;p 2;t 0,1;x";
    int[] due = {
      -100, -101, -102, -103, -200, 1, -106, -107, -108, -109, -110, -111, 2, -113, -114, -115, 3, -117, -118, -119,
      -120, -121, 4, -123, 5};
    for (int n = 0; n <= text.length(); n++) {
      textIs(text.substring(0, n), due[n]);
    }
  }

  /** Each byte in place of each one of a text, held against the Model's pattern. */
  private static void eachByteAtEachPlace() {
    Due.by("FAULT: the first byte with which no such text goes on");
    for (String text : new String[] {"w -20;x", "w 005;p 2", "s 01,-5;x", "s 0,100", "t 00,001;x", "x;x;w 99"}) {
      for (int at = 0; at <= text.length(); at++) {
        for (char letter = 32; letter <= 126; letter++) {
          String rest = at < text.length() ? text.substring(at + 1) : "";
          heldAgainstModel(text.substring(0, at) + letter + rest);
        }
      }
    }
  }

  private static void heldAgainstModel(String text) {
    PinionBench x = Due.bench(20, 40, -60);
    Model m = new Model();
    for (int teeth : new int[] {20, 40, -60}) {
      m.wheel(teeth);
    }
    for (int i = 0; i < text.length(); i++) {
      m.feed(text.charAt(i));
    }
    textIs(text, m.read());
    Due.is("the bench it was tried on", x.count(0), 3);
  }

  private static void refusedWheels() {
    Due.by("An ACT that is refused (as the call would): -200 less the number of ACTS ahead of it");
    for (int teeth = -120; teeth <= 120; teeth++) {
      boolean good = teeth >= -99 && teeth <= -20 || teeth >= 5 && teeth <= 99;
      PinionBench x = new PinionBench();
      readIs(x, "w " + teeth, good ? 1 : -200);
      Due.is("w " + teeth + ", count(0)", x.count(0), good ? 1 : 0);
      Due.is("w " + teeth + ", of(0, 0)", x.of(0, 0), good ? teeth : -1000);
    }
  }

  private static void refusedShifts() {
    Due.by("An ACT that is refused (as the call would)");
    for (int v = -110; v <= 110; v++) {
      boolean good = v >= -50 && v <= 100;
      PinionBench x = Due.bench(20);
      readIs(x, "s 0," + v, good ? 1 : -200);
      Due.is("s 0," + v + ", of(0, 1)", x.of(0, 1), good ? v : 0);
    }
    // SHIFT was 100, or -1: what the call answers is no refusal then.
    PinionBench x = Due.bench(20);
    readIs(x, "s 0,-1;s 0,-50;s 0,100;s 0,-1;s 0,0", 5);
    readIs(x, "s 1,0", -200);
    readIs(x, "s 999,0", -200);
    readIs(new PinionBench(), "s 0,0", -200);
    PinionBench full = new PinionBench();
    for (int i = 0; i < 16; i++) {
      full.wheel(20);
    }
    readIs(full, "s 15,1", 1);
    readIs(full, "s 16,1", -200);
  }

  private static void refusedPressures() {
    Due.by("An ACT that is refused (as the call would)");
    for (int v = 0; v <= 999; v++) {
      PinionBench x = new PinionBench();
      readIs(x, "p " + v, v <= 2 ? 1 : -200);
      Due.is("p " + v + ", count(3)", x.count(3), v <= 2 ? v : 1);
    }
  }

  private static void refusedPairs() {
    Due.by("An ACT that is refused (as the call would)");
    PinionBench x = Due.bench(20, 40, -60, -70, 53);
    for (int one = 0; one <= 6; one++) {
      for (int other = 0; other <= 6; other++) {
        boolean rings = (one == 2 || one == 3) && (other == 2 || other == 3);
        boolean good = one <= 4 && other <= 4 && one != other && !rings;
        readIs(x, "t " + one + "," + other, good ? 1 : -200);
        Due.is("t " + one + "," + other + ", clear()", x.clear(), good ? 1 : 0);
      }
    }
    Due.by("PAIRS that CLASH may come to THE TRAIN (it is FAULTY then)");
    readIs(x, "t 2,4;t 4,2", 2);
    Due.is("faulty()", x.faulty(), 0);
  }

  private static void refusedAheads() {
    Due.by("-200 less the number of ACTS ahead of it; nothing of the TEXT is done then.");
    for (int ahead = 0; ahead <= 38; ahead++) {
      String text = ahead == 0 ? "p 3" : times(ahead, "x") + ";p 3";
      textIs(text, -200 - ahead);
    }
    // Of several the first.
    textIs("x;p 3;p 4;w 4", -201);
    textIs("x;x;w 4;x;x", -202);
  }

  private static void refusedAsFull() {
    Due.by("An ACT that is refused (as the call would)");
    PinionBench x = new PinionBench();
    readIs(x, times(16, "w 5"), 16);
    readIs(x, "w 5", -200);
    readIs(x, "x;w -20", -201);
    readIs(x, times(9, "t 0,1"), 9);
    readIs(x, "t 0,1", -200);
    readIs(x, "x;" + times(9, "t 0,1"), 10);
    readIs(x, "x;" + times(10, "t 0,1"), -210);
    Due.is("count(1)", x.count(1), 9);
    PinionBench y = new PinionBench();
    readIs(y, times(17, "w 5"), -216);
    Due.is("count(0)", y.count(0), 0);
  }

  private static void sees() {
    Due.by("ACTS are tried one behind the other, each sees what those ahead of it did");
    PinionBench x = new PinionBench();
    readIs(x, "s 0,5;w 20", -200);
    readIs(x, "w 20;s 0,5;w 40;t 0,1;t 1,0;x;t 1,0", 7);
    Due.is("of(0, 1)", x.of(0, 1), 5);
    Due.is("count(1)", x.count(1), 1);
    readIs(x, "t 2,0;w -60", -200);
    readIs(x, "w -60;t 2,0;w -70;t 2,3", -203);
    Due.is("count(0)", x.count(0), 2);
    readIs(x, "w -60;t 2,0", 2);
    Due.is("count(1)", x.count(1), 2);
  }

  /** x is never refused, whatever THE TRAIN has. */
  private static void emptiesTheTrain() {
    Due.by("x (THE TRAIN is empty then)");
    PinionBench x = Due.bench(20, 40, -60, 53);
    for (int n = 0; n <= 9; n++) {
      for (int i = 1; i <= n; i++) {
        Due.is("pair " + i, x.pair(i % 2 == 0 ? 0 : 2, i % 2 == 0 ? 1 : 3), i);
      }
      readIs(x, "x", 1);
      Due.is("count(1)", x.count(1), 0);
      Due.is("faulty()", x.faulty(), NOT);
      Due.is("of(2, 5)", x.of(2, 5), 0);
    }
    readIs(new PinionBench(), "x", 1);
  }

  private static void nothingIsDone() {
    Due.by("if one is refused all is as ahead of the TEXT.");
    String[] texts = {
      "p 3", "w 30;w 4", "s 0,1;s 1,1;s 2,1;s 6,0", "p 0;p 3", "x;t 0,0", "t 0,1;t 1,0;t 2,4", "p 1;x;w 30;s 6,9;t 6,0;p 3",
      "x;t 1,0;x;w 99;w -99;s 0,101"};
    int[] aheads = {0, 1, 3, 1, 1, 2, 5, 5};
    for (int i = 0; i < texts.length; i++) {
      String text = texts[i];
      int due = -200 - aheads[i];
      Twins.noTrace("\"" + text + "\"", Twins::usedButForTheTape, x -> Due.read(x, text), due);
    }
    PinionBench x = new PinionBench(), twin = new PinionBench();
    Twins.full(x);
    Twins.full(twin);
    x.read();
    twin.read();
    Due.is("of a full bench", Due.read(x, "x;s 15,1;s 0,1;p 0;w 20"), -204);
    Twins.alike("of a full bench", x, twin);
  }

  private static void faultAheadOfRefusal() {
    Due.by("read(): FAULT, then -200 less the ACTS.");
    textIs("p 3;y", -104);
    textIs("p 3;", -104);
    textIs("w 4;w 0000", -109);
    textIs("p 3;x", -200);
    textIs("p 3;x ", -105);
    Twins.noTrace("a fault behind good acts", Twins::usedButForTheTape, x -> Due.read(x, "w 20;p 0;x;s 0,1;q"), -117);
    Twins.noTrace("a fault behind a refused one", Twins::usedButForTheTape, x -> Due.read(x, "w 20;p 3;"), -109);
  }

  /** A fault at each place of a full tape, and a refusal behind as many acts as it holds. */
  private static void faultsAndRefusalsByTheirPlace() {
    Due.by("-100 less the FAULT; -200 less the ACTS ahead of the one refused.");
    for (int acts = 0; acts < 40; acts++) {
      String ahead = acts == 0 ? "" : times(acts, "x") + ";";
      faultIs(ahead + "?", 2 * acts);
      faultIs(ahead, 2 * acts);
      if (2 * acts + 3 <= 80) {
        textIs(ahead + "p 3", -200 - acts);
      }
    }
    faultIs(times(40, "x") + "?", 79);
    faultIs(times(40, "x") + ";", 80);
  }

  private static void tapeIsEmpty() {
    Due.by("THE TAPE is empty behind each call that reads it, by a FAULT and by all that is refused behind its text, too");
    PinionBench x = Due.bench(20, 40);
    int[] due = {1, -100, -200, -104};
    String[] texts = {"x", "y", "p 3", "p 3;"};
    for (int i = 0; i < 4; i++) {
      Due.is("\"" + texts[i] + "\"", Due.read(x, texts[i]), due[i]);
      Due.is("count(2)", x.count(2), 0);
      Due.is("nothing is left to read", x.read(), -100);
      Due.is("the next byte is the first", x.feed('x'), 1);
      Due.is("and read alone", x.read(), 1);
    }
  }

  /** Each other call, taken or refused, leaves the tape. */
  private static void tapeStays() {
    Due.by("it stays just where that is said.");
    PinionBench x = Due.bench(20, 40);
    x.feed('x');
    x.feed(';');
    x.image();
    x.undo();
    x.clear();
    x.wheel(4);
    x.wheel(30);
    x.pair(0, 1);
    x.pair(0, 0);
    x.row(0, 3);
    x.lay(0);
    x.judge(0);
    x.count(2);
    Due.is("refused", x.feed(31), BAD);
    Due.is("count(2)", x.count(2), 2);
    Due.is("feed", x.feed('x'), 3);
    Due.is("read()", x.read(), 2);
    Due.is("the pair is gone", x.faulty(), NOT);
    Due.is("the pair is gone", x.count(1), 0);
  }
}
