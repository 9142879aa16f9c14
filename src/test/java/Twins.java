import java.util.ArrayList;
import java.util.List;

/** Two benches made alike, one of them asked something in between: a long probe must not tell the two apart. */
final class Twins {
  interface Making {
    void on(PinionBench x);
  }

  interface Call {
    long on(PinionBench x);
  }

  private Twins() {
  }

  /** The call answers what is due, and nothing that can be seen has changed behind it. */
  static void noTrace(String call, Making made, Call asked, long due) {
    PinionBench x = new PinionBench(), twin = new PinionBench();
    made.on(x);
    made.on(twin);
    Due.is(call, asked.on(x), due);
    alike(call, x, twin);
  }

  /** All that can be seen of the two is the same; uses up to 260 calls of each, and the tape and what was ahead of undo(). */
  static void alike(String call, PinionBench x, PinionBench twin) {
    List<Long> mine = probe(x), others = probe(twin);
    int unlike = 0;
    while (unlike < mine.size() && mine.get(unlike).equals(others.get(unlike))) {
      unlike++;
    }
    Due.is(call + " left a trace, at place " + unlike + " of the probe", unlike, mine.size());
  }

  private static List<Long> probe(PinionBench x) {
    List<Long> told = new ArrayList<>();
    state(x, told);
    for (int r = 0; r < 3; r++) {
      // A place beyond any tells a row of none from one that is missing.
      told.add((long) x.put(r, 20, 1));
      for (int i = 0; i < 20; i++) {
        told.add(x.get(r, i));
      }
    }
    told.add((long) x.read());
    state(x, told);
    told.add((long) x.undo());
    state(x, told);
    return told;
  }

  private static void state(PinionBench x, List<Long> told) {
    for (int what = 0; what < 5; what++) {
      told.add((long) x.count(what));
    }
    for (int wheel = 0; wheel < 16; wheel++) {
      for (int what : new int[] {0, 1, 5}) {
        told.add((long) x.of(wheel, what));
      }
    }
    for (int what = 0; what < 4; what++) {
      told.add((long) x.wheels(what));
    }
    told.add((long) x.faulty());
    told.add(x.train(0));
    told.add(x.train(1));
    for (int what = 0; what < 3; what++) {
      told.add(x.closest(what));
    }
  }

  static void nothing(PinionBench x) {
  }

  /** Wheels 20, 41, -60, 53, -70, 9; rows of 3, missing, of none; an image of before; a text on the tape. */
  static void used(PinionBench x) {
    usedButForTheTape(x);
    feed(x, "w 30;s 0,7;x;t 0,1");
  }

  static void usedButForTheTape(PinionBench x) {
    for (int teeth : new int[] {20, 41, -60}) {
      x.wheel(teeth);
    }
    x.pressure(0);
    x.shift(1, 30);
    x.pair(1, 0);
    x.image();
    for (int teeth : new int[] {53, -70, 9}) {
      x.wheel(teeth);
    }
    x.pressure(2);
    x.shift(0, 33);
    x.shift(1, -8);
    x.shift(2, 5);
    x.shift(5, 36);
    x.pair(0, 2);
    x.pair(2, 1);
    x.row(0, 3);
    x.put(0, 0, 20);
    x.put(0, 1, 41);
    x.put(0, 2, Long.MIN_VALUE);
    x.row(2, 0);
  }

  /** 16 wheels, 9 pairs, 80 bytes, rows of 20. */
  static void full(PinionBench x) {
    for (int i = 0; i < 16; i++) {
      x.wheel(i % 4 == 3 ? -80 - i : 20 + i);
      x.shift(i, 3 * i);
    }
    for (int i = 0; i < 9; i++) {
      x.pair(i, i + 1);
    }
    x.image();
    x.pressure(2);
    for (int r = 0; r < 3; r++) {
      x.row(r, 20);
      x.put(r, r, 7 + r);
    }
    StringBuilder text = new StringBuilder("p 00");
    for (int i = 0; i < 38; i++) {
      text.append(";x");
    }
    feed(x, text.toString());
  }

  static void feed(PinionBench x, String text) {
    for (int i = 0; i < text.length(); i++) {
      x.feed(text.charAt(i));
    }
  }
}
