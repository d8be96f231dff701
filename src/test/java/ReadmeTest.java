import java.io.File;
import java.lang.reflect.Method;
import java.lang.reflect.Modifier;
import java.net.URL;
import java.net.URLClassLoader;
import java.nio.file.Files;
import java.nio.file.Path;
import java.util.regex.Matcher;
import java.util.regex.Pattern;
import javax.tools.ToolProvider;

/** What README.md says must be so: its example is compiled and run, and its calls and tests are there. */
final class ReadmeTest {
  private static final Pattern ANSWER = Pattern.compile("int (\\w+) = (.*);\\s*// -> (-?\\d+).*");

  private ReadmeTest() {}

  public static void main(String[] args) throws Exception {
    Path source = Path.of(args.length > 0 ? args[0] : "src/main/java/Lanternserver.java").toAbsolutePath().normalize();
    Path root = source.getParent().getParent().getParent().getParent();
    String text = Files.readString(root.resolve("README.md"));
    runExample(text);
    namesEachCall(text);
    namesOnlyTestsThatAre(text, root);
    Check.end();
  }

  private static void runExample(String text) throws Exception {
    int begin = text.indexOf("```java\n");
    int end = text.indexOf("```", begin + 8);
    Check.isTrue("there is an example", begin >= 0 && end > begin);
    if (begin < 0 || end < begin) return;
    StringBuilder code = new StringBuilder("public class Example {\n  public static void main(String[] args) {\n");
    int answers = 0;
    for (String line : text.substring(begin + 8, end).split("\n")) {
      Matcher told = ANSWER.matcher(line);
      code.append(line).append('\n');
      if (!told.matches()) continue;
      answers++;
      code.append("if (").append(told.group(1)).append(" != ").append(told.group(3))
          .append(") throw new IllegalStateException(\"").append(told.group(1)).append(" is \" + ")
          .append(told.group(1)).append(");\n");
    }
    code.append("if (!x.agrees() || x.errors() != 0) throw new IllegalStateException(\"the checks\");\n  }\n}\n");
    Check.isTrue("the example tells answers", answers > 10);
    Check.dueText("the example", outcomeOf(code.toString()), "as told");
  }

  private static String outcomeOf(String code) throws Exception {
    Path folder = Files.createTempDirectory("readme");
    Path file = folder.resolve("Example.java");
    Path compiled = folder.resolve("Example.class");
    try {
      Files.writeString(file, code);
      int failed = ToolProvider.getSystemJavaCompiler().run(null, null, null, "-proc:none", "-cp",
          System.getProperty("java.class.path"), "-d", folder.toString(), file.toString());
      if (failed != 0) return "does not compile";
      try (URLClassLoader loader = new URLClassLoader(new URL[] {folder.toUri().toURL()})) {
        loader.loadClass("Example").getMethod("main", String[].class).invoke(null, (Object) new String[0]);
      } catch (java.lang.reflect.InvocationTargetException thrown) {
        return thrown.getCause().toString();
      }
      return "as told";
    } finally {
      Files.deleteIfExists(compiled);
      Files.deleteIfExists(file);
      Files.deleteIfExists(folder);
    }
  }

  private static void namesEachCall(String text) {
    for (Method one : Lanternserver.class.getDeclaredMethods()) {
      if (!Modifier.isPublic(one.getModifiers())) continue;
      Check.isTrue("README names " + one.getName(), text.contains("`" + one.getName() + "`"));
    }
  }

  private static void namesOnlyTestsThatAre(String text, Path root) {
    Matcher named = Pattern.compile("[`\\s](\\w+Test|Check|Watch)[`\\s]").matcher(text);
    while (named.find()) {
      if (named.group(1).equals("EdgeTest")) continue;
      File file = root.resolve("src/test/java/" + named.group(1) + ".java").toFile();
      Check.isTrue("there is a " + named.group(1), file.isFile());
    }
    Check.isTrue(".ci/run can be run", root.resolve(".ci/run").toFile().canExecute());
  }
}
