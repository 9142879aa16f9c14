import java.io.IOException;
import java.io.UncheckedIOException;
import java.nio.file.Files;
import java.nio.file.Path;

/** Counts answers that are due and those that are not; each test's main ends with close(). */
final class Due {
  private static int good = 0;
  private static int wrong = 0;
  private static String words = "";
  private static final Path DOCUMENT = Path.of("../shared/DOC.md");
  private static String document = "";

  private Due() {
  }

  static void is(String call, long got, long want) {
    if (got == want) {
      good++;
      return;
    }
    wrong++;
    System.out.println(call + " answered " + got + ", due is " + want + (words.isEmpty() ? "" : " by: " + words));
  }

  /** What follows is due by these words, which must stand in the document just so. */
  static void by(String told) {
    words = told;
    // Where the tests stand without the document, its words can't be looked up, but its answers are due all the same.
    if (Files.exists(DOCUMENT)) {
      is("the document has these words", document().contains(told) ? 1 : 0, 1);
    }
  }

  /** The document, each run of white space in it told as one blank. */
  private static String document() {
    if (document.isEmpty()) {
      try {
        document = Files.readString(DOCUMENT).replaceAll("\\s+", " ");
      } catch (IOException e) {
        throw new UncheckedIOException(e);
      }
    }
    return document;
  }

  /** Feeds a text byte by byte to an empty tape and reads it. */
  static int read(PinionBench x, String text) {
    for (int i = 0; i < text.length(); i++) {
      is("feed of \"" + text + "\" at " + i, x.feed(text.charAt(i)), i + 1);
    }
    return x.read();
  }

  /** A new bench with wheels of these teeth. */
  static PinionBench bench(int... teeth) {
    PinionBench x = new PinionBench();
    for (int i = 0; i < teeth.length; i++) {
      is("wheel(" + teeth[i] + ")", x.wheel(teeth[i]), i);
    }
    return x;
  }

  static void close(String name) {
    System.out.println(name + ": " + good + " as due, " + wrong + " not");
    if (wrong != 0) {
      System.exit(1);
    }
  }
}
