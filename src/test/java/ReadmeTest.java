import java.io.ByteArrayOutputStream;
import java.io.IOException;
import java.io.PrintStream;
import java.lang.reflect.Method;
import java.lang.reflect.Modifier;
import java.net.URL;
import java.net.URLClassLoader;
import java.nio.charset.StandardCharsets;
import java.nio.file.DirectoryStream;
import java.nio.file.Files;
import java.nio.file.Path;
import java.util.regex.Matcher;
import java.util.regex.Pattern;
import javax.tools.ToolProvider;

/** README.md: the program in it compiles and prints what its comments say, and no call or test is left out. */
public final class ReadmeTest {
  private static final Path TESTS = Path.of("src/test/java");
  private static final Pattern PROGRAM = Pattern.compile("(?s)```java\n(.*?)```");
  private static final Pattern PRINTS = Pattern.compile("// prints (-?\\d+)");

  private ReadmeTest() {
  }

  public static void main(String[] args) throws Exception {
    String page = Files.readString(Path.of("README.md"), StandardCharsets.UTF_8);
    program(page);
    calls(page);
    tests(page);
    Check.end();
  }

  private static void program(String page) throws Exception {
    Matcher found = PROGRAM.matcher(page);
    Check.holds("the page holds a program", found.find());
    String source = found.group(1);
    StringBuilder due = new StringBuilder();
    Matcher prints = PRINTS.matcher(source);
    while (prints.find()) due.append(prints.group(1)).append('\n');
    Check.holds("the program says what it prints", due.length() > 0);
    Check.same("what the program prints", printed(source), due.toString());
  }

  private static String printed(String source) throws Exception {
    Path folder = Files.createTempDirectory("readme");
    Path file = folder.resolve("Show.java");
    try {
      Files.writeString(file, source, StandardCharsets.UTF_8);
      int answer = ToolProvider.getSystemJavaCompiler().run(null, null, null,
          "-cp", System.getProperty("java.class.path"), "-d", folder.toString(), file.toString());
      return answer == 0 ? output(folder) : "it does not compile";
    } finally {
      deleteAll(folder);
    }
  }

  private static String output(Path folder) throws Exception {
    PrintStream console = System.out;
    ByteArrayOutputStream bytes = new ByteArrayOutputStream();
    try (URLClassLoader loader = new URLClassLoader(new URL[] {folder.toUri().toURL()})) {
      System.setOut(new PrintStream(bytes, true, StandardCharsets.UTF_8));
      loader.loadClass("Show").getMethod("main", String[].class).invoke(null, (Object) new String[0]);
    } finally {
      System.setOut(console);
    }
    return bytes.toString(StandardCharsets.UTF_8).replace("\r\n", "\n");
  }

  private static void deleteAll(Path folder) throws IOException {
    try (DirectoryStream<Path> files = Files.newDirectoryStream(folder)) {
      for (Path file : files) Files.delete(file);
    }
    Files.delete(folder);
  }

  private static void calls(String page) {
    for (Method m : PhaseLights.class.getDeclaredMethods()) {
      if (!Modifier.isPublic(m.getModifiers())) continue;
      Check.holds("the page names " + m.getName(), page.contains("`" + m.getName() + "`"));
    }
  }

  private static void tests(String page) throws IOException {
    try (DirectoryStream<Path> files = Files.newDirectoryStream(TESTS, "*Test.java")) {
      for (Path file : files) {
        String name = file.getFileName().toString();
        Check.holds("the page names " + name, page.contains("`src/test/java/" + name + "`"));
      }
    }
  }
}
