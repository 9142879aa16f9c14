/** Promises 28 to 30, and what the Terms say of the image: each sentence that names an edge. */
public final class ImageEdgeTest {
  private static final int BAD = PinionBench.BAD, STATE = PinionBench.STATE, NOT = PinionBench.NOT;
  private static final int MAX = Integer.MAX_VALUE, MIN = Integer.MIN_VALUE;

  public static void main(String[] args) {
    noImage();
    imageOfNone();
    imageOfAll();
    imageIsAllOfIt();
    imageChangesNothing();
    laterImage();
    imageStays();
    undoLeavesRowsAndTape();
    undoneNumbersComeAgain();
    undoneTrain();
    countWhat();
    countEnds();
    countOutwardAlone();
    Due.close("ImageEdgeTest");
  }

  private static void noImage() {
    Due.by("All is as THE IMAGE: how many WHEELS. STATE: there is none.");
    Due.is("a new object", new PinionBench().undo(), STATE);
    Twins.noTrace("undo() of a new object", Twins::nothing, PinionBench::undo, STATE);
    Twins.noTrace("undo() without an image", ImageEdgeTest::noImageYet, PinionBench::undo, STATE);
  }

  private static void noImageYet(PinionBench x) {
    x.wheel(20);
    x.wheel(40);
    x.shift(1, 7);
    x.pressure(2);
    x.pair(0, 1);
    x.row(0, 2);
    x.put(0, 1, 9);
    Twins.feed(x, "w 30;p 0");
  }

  private static void imageOfNone() {
    Due.by("THE IMAGE is taken: how many WHEELS.");
    PinionBench x = new PinionBench();
    Due.is("image() of none", x.image(), 0);
    Due.is("undo() at once", x.undo(), 0);
    noImageYet(x);
    Due.is("undo() to none", x.undo(), 0);
    Due.is("count(0)", x.count(0), 0);
    Due.is("count(1)", x.count(1), 0);
    Due.is("count(3)", x.count(3), 1);
    Due.is("wheel", x.wheel(30), 0);
    Due.is("of no shift", x.of(0, 1), 0);
  }

  private static void imageOfAll() {
    Due.by("`int image()`: THE IMAGE is taken: how many WHEELS.");
    PinionBench x = new PinionBench(), twin = new PinionBench();
    Twins.full(x);
    Twins.full(twin);
    twin.image();
    Due.is("image() of 16", x.image(), 16);
    x.clear();
    x.pressure(0);
    for (int i = 0; i < 16; i++) {
      x.shift(i, -i);
    }
    Due.is("undo() to 16", x.undo(), 16);
    Twins.alike("undo() to 16", x, twin);
  }

  private static void imageIsAllOfIt() {
    Due.by("THE IMAGE: WHEELS, PRESSURE, THE TRAIN.");
    PinionBench x = new PinionBench(), twin = new PinionBench();
    for (PinionBench each : new PinionBench[] {x, twin}) {
      Twins.usedButForTheTape(each);
      Due.is("image()", each.image(), 6);
    }
    Due.is("all is changed", Due.read(x, "w 30;s 0,-9;s 1,9;s 2,99;p 1;x;t 1,0;t 0,1"), 8);
    Due.is("undo()", x.undo(), 6);
    Twins.alike("undo()", x, twin);
  }

  private static void imageChangesNothing() {
    Due.by("nothing changes but where it is told");
    PinionBench x = new PinionBench(), twin = new PinionBench();
    noImageYet(x);
    noImageYet(twin);
    Due.is("image()", x.image(), 2);
    Due.is("count(2)", x.count(2), twin.count(2));
    Due.is("get(0, 1)", x.get(0, 1), 9);
    Due.is("read()", x.read(), twin.read());
    for (int what = 0; what < 5; what++) {
      Due.is("count(" + what + ")", x.count(what), twin.count(what));
    }
  }

  private static void laterImage() {
    Due.by("THE IMAGE is taken");
    PinionBench x = Due.bench(20);
    Due.is("image() of 1", x.image(), 1);
    x.wheel(30);
    x.pressure(0);
    Due.is("image() of 2", x.image(), 2);
    x.wheel(40);
    x.pressure(2);
    Due.is("undo()", x.undo(), 2);
    Due.is("count(3)", x.count(3), 0);
    Due.is("of(1, 0)", x.of(1, 0), 30);
    Due.is("of(2, 0)", x.of(2, 0), -1000);
  }

  private static void imageStays() {
    Due.by("All is as THE IMAGE");
    PinionBench x = Due.bench(20);
    x.image();
    for (int turn = 0; turn < 3; turn++) {
      Due.is("wheel", x.wheel(30 + turn), 1);
      Due.is("shift", x.shift(0, 5), 0);
      Due.is("pressure", x.pressure(turn), 1);
      Due.is("pair", x.pair(0, 1), 1);
      Due.is("a text that is refused", Due.read(x, "w 40;s 0,6;p 3"), -202);
      Due.is("undo()", x.undo(), 1);
      Due.is("undo() again", x.undo(), 1);
      Due.is("count(1)", x.count(1), 0);
    }
  }

  private static void undoLeavesRowsAndTape() {
    Due.by("undo() leaves ROWS and THE TAPE.");
    PinionBench x = Due.bench(20);
    x.row(0, 2);
    x.put(0, 0, 1);
    x.row(1, 1);
    Twins.feed(x, "p 2");
    x.image();
    x.put(0, 0, 2);
    x.row(1, -1);
    x.row(2, 3);
    x.put(2, 2, 8);
    x.feed(';');
    x.feed('x');
    Due.is("undo()", x.undo(), 1);
    Due.is("get(0, 0)", x.get(0, 0), 2);
    Due.is("row 1 is missing", x.put(1, 0, 1), -11);
    Due.is("get(2, 2)", x.get(2, 2), 8);
    Due.is("count(2)", x.count(2), 5);
    Due.is("read()", x.read(), 2);
    Due.is("count(3)", x.count(3), 2);
    Due.is("undo()", x.undo(), 1);
    Due.is("nothing on the tape", x.count(2), 0);
  }

  private static void undoneNumbersComeAgain() {
    Due.by("WHEELS 0 .. as they come (16 at most)");
    PinionBench x = Due.bench(20, 30);
    x.image();
    for (int turn = 0; turn < 2; turn++) {
      for (int i = 2; i < 16; i++) {
        Due.is("wheel", x.wheel(40), i);
        Due.is("shift", x.shift(i, 9), 0);
      }
      Due.is("the 17th", x.wheel(40), PinionBench.FULL);
      Due.is("undo()", x.undo(), 2);
      Due.is("shift of one that is gone", x.shift(2, 0), -1000);
      Due.is("pair with one that is gone", x.pair(0, 2), BAD);
    }
  }

  private static void undoneTrain() {
    Due.by("THE IMAGE: WHEELS, PRESSURE, THE TRAIN.");
    PinionBench x = Due.bench(20, 40, -60, 53);
    x.pair(0, 1);
    x.image();
    x.pair(2, 3);
    Due.is("faulty()", x.faulty(), 1);
    Due.is("undo()", x.undo(), 4);
    Due.is("faulty()", x.faulty(), NOT);
    Due.is("count(1)", x.count(1), 1);
    for (int i = 2; i <= 9; i++) {
      Due.is("pair " + i, x.pair(1, 0), i);
    }
    Due.is("the tenth", x.pair(1, 0), PinionBench.FULL);
    x.clear();
    Due.is("undo()", x.undo(), 4);
    Due.is("train(0)", x.train(0), -2);
    x.pair(2, 3);
    x.image();
    x.clear();
    Due.is("undo()", x.undo(), 4);
    Due.is("faulty()", x.faulty(), 1);
  }

  private static void countWhat() {
    Due.by("How many: 0 WHEELS, 1 PAIRS of THE TRAIN, 2 bytes of THE TAPE, 3 PRESSURE, 4 TEETH of all outward together. BAD.");
    int[] due = {6, 3, 18, 2, 123};
    for (int what = 0; what < 5; what++) {
      int asked = what;
      Twins.noTrace("count(" + what + ")", Twins::used, x -> x.count(asked), due[what]);
    }
    for (int what : new int[] {MIN, -1, 5, MAX}) {
      Twins.noTrace("count(" + what + ")", Twins::used, x -> x.count(what), BAD);
      Due.is("a new object, count(" + what + ")", new PinionBench().count(what), BAD);
    }
  }

  private static void countEnds() {
    Due.by("How many: 0 WHEELS, 1 PAIRS of THE TRAIN, 2 bytes of THE TAPE, 3 PRESSURE, 4 TEETH of all outward together.");
    int[] none = {0, 0, 0, 1, 0}, all = {16, 9, 80, 2, 16 * 99};
    PinionBench x = new PinionBench();
    for (int what = 0; what < 5; what++) {
      Due.is("a new object, count(" + what + ")", x.count(what), none[what]);
    }
    for (int i = 0; i < 16; i++) {
      x.wheel(99);
    }
    for (int i = 0; i < 9; i++) {
      x.pair(i, i + 1);
    }
    for (int i = 0; i < 80; i++) {
      x.feed('~');
    }
    x.pressure(2);
    for (int what = 0; what < 5; what++) {
      Due.is("a full one, count(" + what + ")", x.count(what), all[what]);
    }
  }

  private static void countOutwardAlone() {
    Due.by("4 TEETH of all outward together.");
    int[] teeth = {-99, 5, -20, 99, 5};
    int[] due = {0, 5, 5, 104, 109};
    PinionBench x = new PinionBench();
    for (int i = 0; i < teeth.length; i++) {
      x.wheel(teeth[i]);
      x.shift(i, 100);
      Due.is("behind " + teeth[i], x.count(4), due[i]);
    }
  }
}
