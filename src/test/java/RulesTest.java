import java.io.IOException;
import java.lang.reflect.Constructor;
import java.lang.reflect.Field;
import java.lang.reflect.Method;
import java.lang.reflect.Modifier;
import java.nio.file.Files;
import java.nio.file.Path;
import java.util.Set;
import java.util.TreeSet;
import java.util.regex.Matcher;
import java.util.regex.Pattern;

/** The rules of ../shared/LANGUAGE.md, as far as a short test can see them, and the document's face. */
public final class RulesTest {
  private static final Path DOCUMENT = Path.of("../shared/DOC.md");
  private static final String[] FACE = {
    "public int wheel(int)", "public int shift(int,int)", "public int pressure(int)", "public int of(int,int)",
    "public int fewest(int)", "public long distance(int,int,int)", "public long ratio(int,int,int)",
    "public long contact(int,int,int)", "public int shiftFor(int,int,int,int)", "public int wheels(int)",
    "public int pair(int,int)", "public int clear()", "public long train(int)", "public int faulty()",
    "public long closest(int)", "public int together(int,int,int)", "public int most(int,int)",
    "public long planets(int,int,int,int,int)", "public int searched(int,int,int,int,int)", "public int feed(int)",
    "public int read()", "public int row(int,int)", "public int put(int,int,long)", "public long get(int,int)",
    "public int lay(int)", "public int judge(int)", "public int image()", "public int undo()", "public int count(int)"};
  private static final String[] BARRED = {
    "->", "::", "\\bimport\\b", "\\bpackage\\b", "\\btry\\b", "\\bcatch\\b", "\\bfinally\\b", "\\bthrow\\b",
    "\\bthrows\\b", "\\bassert\\b", "\\bsynchronized\\b", "\\bStrings?\\b", "\\bdouble\\b", "\\bfloat\\b",
    "\\bSystem\\.(?!arraycopy)", "\\bMath\\.\\w+Exact\\b", "\\bThread\\b", "\\bRandom\\b", "\\bwhile\\b", "\\bnew \\w+\\[\\]\\["};

  public static void main(String[] args) throws IOException {
    face();
    source(Files.readString(Path.of("src/main/java/PinionBench.java")));
    Due.close("RulesTest");
  }

  private static void face() throws IOException {
    Set<String> due = new TreeSet<>();
    for (String f : FACE) {
      due.add(f.replace(" int ", " int PinionBench.").replace(" long ", " long PinionBench."));
    }
    Set<String> open = new TreeSet<>(), names = new TreeSet<>();
    for (Method m : PinionBench.class.getDeclaredMethods()) {
      if (!Modifier.isPrivate(m.getModifiers())) {
        open.add(m.toString());
        names.add(m.getName());
      }
    }
    for (Method m : PinionBench.class.getDeclaredMethods()) {
      boolean hidden = Modifier.isPrivate(m.getModifiers());
      Due.is("private " + m.getName() + " bears a public name", hidden && names.contains(m.getName()) ? 1 : 0, 0);
    }
    Due.is("the methods are " + open, open.equals(due) ? 1 : 0, 1);
    if (Files.exists(DOCUMENT)) {
      Due.is("the document's methods", told(false).equals(open) ? 1 : 0, 1);
      Due.is("the document's constants", told(true).equals(constants()) ? 1 : 0, 1);
    }
    Due.is("the class is public and final", PinionBench.class.getModifiers(), Modifier.PUBLIC | Modifier.FINAL);
    Constructor<?>[] made = PinionBench.class.getDeclaredConstructors();
    Due.is("one constructor", made.length, 1);
    Due.is("it is public, of nothing", Modifier.isPublic(made[0].getModifiers()) ? made[0].getParameterCount() : -1, 0);
    Set<String> fields = new TreeSet<>();
    for (Field f : PinionBench.class.getDeclaredFields()) {
      if (!Modifier.isPrivate(f.getModifiers())) {
        fields.add(f.getName());
      }
    }
    Due.is("the constants are " + fields, fields.toString().equals("[BAD, CLASH, CLASHED, FULL, NOT, STATE, VOID]") ? 1 : 0, 1);
  }

  /** What the document's section "The public face" tells, as reflection would tell it. */
  private static Set<String> told(boolean constants) throws IOException {
    Set<String> told = new TreeSet<>();
    String face = Files.readString(DOCUMENT).split("```")[1];
    for (String line : face.split("\n")) {
      Matcher method = Pattern.compile("\\s+public (int|long) (\\w+)\\((.*)\\);").matcher(line);
      Matcher constant = Pattern.compile("\\s+public static final (int|long) (.*);").matcher(line);
      if (!constants && method.matches()) {
        String kinds = method.group(3).replaceAll("(int|long) \\w+", "$1").replace(" ", "");
        told.add("public " + method.group(1) + " PinionBench." + method.group(2) + "(" + kinds + ")");
      }
      if (constants && constant.matches()) {
        for (String one : constant.group(2).split(", ")) {
          told.add(constant.group(1) + " " + one.replace("Long.MIN_VALUE + 1", "" + (Long.MIN_VALUE + 1))
              .replace("Long.MIN_VALUE", "" + Long.MIN_VALUE));
        }
      }
    }
    return told;
  }

  private static Set<String> constants() {
    Set<String> open = new TreeSet<>();
    for (Field f : PinionBench.class.getDeclaredFields()) {
      if (f.getModifiers() == (Modifier.PUBLIC | Modifier.STATIC | Modifier.FINAL)) {
        try {
          open.add(f.getType() + " " + f.getName() + " = " + f.getLong(null));
        } catch (IllegalAccessException e) {
          throw new IllegalStateException(e);
        }
      }
    }
    return open;
  }

  private static void source(String text) {
    String code = text.replaceAll("(?s)/\\*.*?\\*/|//[^\\n]*", "");
    for (String b : BARRED) {
      Matcher m = Pattern.compile(b).matcher(code);
      Due.is("the source has " + b, m.find() ? m.start() : -1, -1);
    }
    for (int i = 0; i < text.length(); i++) {
      char c = text.charAt(i);
      if (c != '\n' && (c < 32 || c > 126)) {
        Due.is("a sign that is not plain, at " + i, c, ' ');
      }
    }
    Matcher open = Pattern.compile("(?m)^( {4}| {8})(?!(?:if|for|switch)\\b)\\w[\\w<>\\[\\] ]+\\(([^)]*)\\) \\{$").matcher(code);
    int methods = 0;
    while (open.find()) {
      int end = code.indexOf("\n" + open.group(1) + "}", open.start());
      long lines = code.substring(open.start(), end).lines().count();
      Due.is("a method of " + lines + " lines: " + open.group().trim(), lines <= 60 ? 1 : 0, 1);
      Due.is("too many parameters: " + open.group().trim(), open.group(2).split(",").length <= 7 ? 1 : 0, 1);
      methods++;
    }
    Due.is("the methods are seen", methods > 60 ? 1 : 0, 1);
  }
}
