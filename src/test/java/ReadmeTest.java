import java.io.ByteArrayOutputStream;
import java.io.File;
import java.io.IOException;
import java.io.PrintStream;
import java.lang.reflect.Method;
import java.lang.reflect.Modifier;
import java.net.URL;
import java.net.URLClassLoader;
import java.nio.file.Files;
import java.nio.file.Path;
import java.util.Set;
import java.util.TreeSet;
import java.util.regex.Matcher;
import java.util.regex.Pattern;
import javax.tools.ToolProvider;

/** README.md: its program prints what the page says, and its tables tell each call and each test. */
public final class ReadmeTest {
  private static final Path MAIN = Path.of("src/main/java/PinionBench.java"), TESTS = Path.of("src/test/java");

  public static void main(String[] args) throws IOException, ReflectiveOperationException {
    String page = Files.readString(Path.of("README.md"));
    prints(piece(page, "java"), piece(page, "text"));
    calls(page);
    tests(page);
    Due.close("ReadmeTest");
  }

  /** The first piece of the page that stands between fences of that name. */
  private static String piece(String page, String name) {
    Matcher m = Pattern.compile("(?s)```" + name + "\n(.*?)```").matcher(page);
    boolean found = m.find();
    Due.is("a piece of " + name, found ? 1 : 0, 1);
    return found ? m.group(1) : "";
  }

  private static void prints(String program, String told) throws IOException, ReflectiveOperationException {
    Path folder = Files.createTempDirectory("readme"), mine = folder.resolve("Mine.java");
    PrintStream out = System.out;
    try {
      Files.writeString(mine, program);
      String[] asked = {"-d", folder.toString(), MAIN.toString(), mine.toString()};
      Due.is("javac of the program", ToolProvider.getSystemJavaCompiler().run(null, null, null, asked), 0);
      ByteArrayOutputStream printed = new ByteArrayOutputStream();
      try (URLClassLoader loader = new URLClassLoader(new URL[] {folder.toUri().toURL()}, null)) {
        Method main = loader.loadClass("Mine").getMethod("main", String[].class);
        System.setOut(new PrintStream(printed, true));
        main.invoke(null, (Object) new String[0]);
      } finally {
        System.setOut(out);
      }
      String got = printed.toString().replace(System.lineSeparator(), "\n");
      Due.is("what the program prints:\n" + got + "as told", got.equals(told) ? 1 : 0, 1);
    } finally {
      for (File file : folder.toFile().listFiles()) {
        file.delete();
      }
      folder.toFile().delete();
    }
  }

  private static void calls(String page) {
    Set<String> due = new TreeSet<>(), told = new TreeSet<>();
    for (Method m : PinionBench.class.getDeclaredMethods()) {
      if (Modifier.isPublic(m.getModifiers())) {
        due.add(m.getName());
      }
    }
    Matcher row = Pattern.compile("(?m)^\\| [a-z ,]+ \\| (`.*`) \\|$").matcher(page);
    while (row.find()) {
      for (String name : row.group(1).split(", ")) {
        Due.is(name + " is told once", told.add(name.replace("`", "")) ? 1 : 0, 1);
      }
    }
    Due.is("the calls told are " + told, told.equals(due) ? 1 : 0, 1);
  }

  private static void tests(String page) {
    Set<String> due = new TreeSet<>(), told = new TreeSet<>();
    for (File file : TESTS.toFile().listFiles()) {
      if (file.getName().endsWith("Test.java")) {
        due.add(file.getName().replace(".java", ""));
      }
    }
    Matcher row = Pattern.compile("(?m)^\\| (\\w+Test(?:, \\w+Test)*) \\|").matcher(page);
    while (row.find()) {
      for (String name : row.group(1).split(", ")) {
        Due.is(name + " is told once", told.add(name) ? 1 : 0, 1);
      }
    }
    Due.is("the tests told are " + told, told.equals(due) ? 1 : 0, 1);
  }
}
