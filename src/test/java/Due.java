/** Counts answers that are due and those that are not; each test's main ends with close(). */
final class Due {
  private static int good = 0;
  private static int wrong = 0;

  private Due() {
  }

  static void is(String call, long got, long want) {
    if (got == want) {
      good++;
      return;
    }
    wrong++;
    System.out.println(call + " answered " + got + ", due is " + want);
  }

  /** Feeds a text byte by byte to an empty tape and reads it. */
  static int read(PinionBench x, String text) {
    for (int i = 0; i < text.length(); i++) {
      is("feed of \"" + text + "\" at " + i, x.feed(text.charAt(i)), i + 1);
    }
    return x.read();
  }

  /** A new bench with wheels of these teeth. */
  static PinionBench bench(int... teeth) {
    PinionBench x = new PinionBench();
    for (int i = 0; i < teeth.length; i++) {
      is("wheel(" + teeth[i] + ")", x.wheel(teeth[i]), i);
    }
    return x;
  }

  static void close(String name) {
    System.out.println(name + ": " + good + " as due, " + wrong + " not");
    if (wrong != 0) {
      System.exit(1);
    }
  }
}
