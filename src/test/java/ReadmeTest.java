import java.io.IOException;
import java.lang.reflect.Method;
import java.lang.reflect.Modifier;
import java.net.URL;
import java.net.URLClassLoader;
import java.nio.file.Files;
import java.nio.file.Path;
import java.util.ArrayList;
import java.util.List;
import java.util.regex.Matcher;
import java.util.regex.Pattern;
import java.util.stream.Stream;
import javax.tools.ToolProvider;

/** README.md: its example answers what it says, the statements of its table are taken, every call is named. */
public final class ReadmeTest {
  private static final Pattern ANSWERED = Pattern.compile("(?m)^(egg\\.\\w+\\([^)]*\\));\\s*// (-?\\d+):.*$");
  private static final int EXAMPLES = 9;
  private static final int STATEMENTS = 7;

  private ReadmeTest() {
  }

  public static void main(String[] args) throws Exception {
    String readme = Files.readString(Path.of("README.md"));
    example(readme);
    statements(readme);
    calls(readme);
    tests(readme);
    Check.end("ReadmeTest");
  }

  /** The example is compiled as it stands there, but that each answer it tells is kept. */
  private static void example(String readme) throws Exception {
    String code = readme.replaceAll("(?s).*?```java\n(.*?)```.*", "$1");
    String kept = ANSWERED.matcher(code).replaceAll("answers.add((long) $1);");
    String source = "public final class ReadmeExample { public static java.util.List<Long> answers() {\n"
        + "java.util.List<Long> answers = new java.util.ArrayList<>();\n" + kept + "return answers; }}\n";
    Path work = Files.createTempDirectory("readme");
    try {
      Path file = work.resolve("ReadmeExample.java");
      Files.writeString(file, source);
      int failed = ToolProvider.getSystemJavaCompiler().run(null, null, null, "-proc:none", "-d", work.toString(),
          "-cp", System.getProperty("java.class.path"), file.toString());
      Check.due("the example's compiling", failed, 0);
      if (failed == 0) {
        compare(code, answersOf(work));
      }
    } finally {
      remove(work);
    }
  }

  private static List<?> answersOf(Path work) throws Exception {
    try (URLClassLoader loader = new URLClassLoader(new URL[] {work.toUri().toURL()})) {
      return (List<?>) loader.loadClass("ReadmeExample").getMethod("answers").invoke(null);
    }
  }

  private static void compare(String code, List<?> answers) {
    Matcher told = ANSWERED.matcher(code);
    int found = 0;
    while (told.find()) {
      Check.due(told.group(1) + " of the example", answers.get(found).toString(), told.group(2));
      found++;
    }
    Check.due("calls of the example that tell their answer", found, EXAMPLES);
  }

  private static void remove(Path work) throws IOException {
    List<Path> files = new ArrayList<>();
    try (Stream<Path> found = Files.list(work)) {
      found.forEach(files::add);
    }
    for (Path file : files) {
      Files.delete(file);
    }
    Files.delete(work);
  }

  /** Each STATEMENT of the table on an object that has two PARTS. */
  private static void statements(String readme) {
    Matcher line = Pattern.compile("(?m)^\\| `[^|]*;` \\|").matcher(readme);
    int found = 0;
    while (line.find()) {
      Matcher statement = Pattern.compile("`([^`]*;)`").matcher(line.group());
      while (statement.find()) {
        TwoThirdsOfAnEgg egg = Check.told("p0114;p0114;");
        Check.due("the statement " + statement.group(1), Check.tell(egg, statement.group(1)), 1);
        found++;
      }
    }
    Check.due("statements in the table", found, STATEMENTS);
  }

  private static void calls(String readme) {
    for (Method method : TwoThirdsOfAnEgg.class.getDeclaredMethods()) {
      if (Modifier.isPublic(method.getModifiers())) {
        boolean named = readme.contains("`" + method.getName() + "(");
        Check.due("README.md's naming of " + method.getName(), named ? 1 : 0, 1);
      }
    }
  }

  private static void tests(String readme) throws IOException {
    try (Stream<Path> files = Files.list(Path.of("src/test/java"))) {
      files.map(file -> file.getFileName().toString()).filter(name -> name.endsWith("Test.java")).forEach(name -> {
        boolean named = readme.contains("| " + name.replace(".java", "") + " |");
        Check.due("README.md's naming of " + name, named ? 1 : 0, 1);
      });
    }
  }
}
