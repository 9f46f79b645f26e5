import java.lang.reflect.Field;
import java.lang.reflect.Method;
import java.lang.reflect.Modifier;
import java.net.URL;
import java.net.URLClassLoader;
import java.nio.file.Files;
import java.nio.file.Path;
import javax.tools.ToolProvider;

/** What README.md says of the class is so: its examples run as it tells, and it names every public member. */
public final class ReadmeTest {
  public static void main(String[] args) throws Exception {
    String readme = Files.readString(Path.of("README.md"));
    Check.due("answer of the Java example", answerOf(blockOf(readme, "java")), 42);
    basicExample(blockOf(readme, "basic"));
    members(readme);
    limits(readme);
    tests(readme);
    Check.finish();
  }

  /** The text between the fence of this language and the next fence. */
  private static String blockOf(String readme, String language) {
    String fence = "```" + language + "\n";
    int start = readme.indexOf(fence);
    Check.due("README.md has an example in " + language, start >= 0, true);
    return start < 0 ? "" : readme.substring(start + fence.length(), readme.indexOf("```", start + fence.length()));
  }

  /** Compiles the example as the body of a method, runs it, and answers its variable answer. */
  private static int answerOf(String example) throws Exception {
    Path directory = Files.createTempDirectory("readme");
    Path file = directory.resolve("Example.java");
    Path classes = directory.resolve("Example.class");
    try {
      Files.writeString(file, "public class Example { public static int answer() {\n" + example + "\nreturn answer; } }\n");
      String path = System.getProperty("java.class.path");
      int failed = ToolProvider.getSystemJavaCompiler()
          .run(null, null, null, "-cp", path, "-d", directory.toString(), file.toString());
      Check.due("the Java example compiles", failed, 0);
      if (failed != 0) {
        return 0;
      }
      try (URLClassLoader loader = new URLClassLoader(new URL[] {directory.toUri().toURL()})) {
        return (Integer) loader.loadClass("Example").getMethod("answer").invoke(null);
      }
    } finally {
      Files.deleteIfExists(classes);
      Files.deleteIfExists(file);
      Files.deleteIfExists(directory);
    }
  }

  private static void basicExample(String example) {
    TinyBasicVm vm = Check.compiled(example);
    Check.due("run of the BASIC example", vm.run(1000), TinyBasicVm.ST_HALTED);
    Check.due("its stop line", vm.getStopLine(), 40);
    Check.due("its steps", vm.getSteps(), 14);
    Check.due("its output's count", vm.getOutputCount(), 3);
    for (int i = 0; i < 3; i++) {
      Check.due("its output " + i, vm.getOutput(i), (i + 1) * (i + 1));
    }
  }

  private static void members(String readme) {
    for (Field field : TinyBasicVm.class.getFields()) {
      Check.due("README.md names " + field.getName(), readme.contains("`" + field.getName() + "`"), true);
    }
    for (Method method : TinyBasicVm.class.getDeclaredMethods()) {
      if (Modifier.isPublic(method.getModifiers())) {
        Check.due("README.md names " + method.getName(), readme.contains("`" + method.getName() + "("), true);
      }
    }
  }

  private static void limits(String readme) {
    dueLimit(readme, "MAX_CHARS", TinyBasicVm.MAX_CHARS);
    dueLimit(readme, "MAX_LINES", TinyBasicVm.MAX_LINES);
    dueLimit(readme, "MAX_LINE_LEN", TinyBasicVm.MAX_LINE_LEN);
    dueLimit(readme, "MAX_FUEL", TinyBasicVm.MAX_FUEL);
  }

  private static void dueLimit(String readme, String name, int value) {
    Check.due("README.md tells the value of " + name, readme.contains("`" + name + "` (" + value + ")"), true);
  }

  private static void tests(String readme) throws Exception {
    try (var files = Files.list(Path.of("src/test/java"))) {
      for (Path file : files.toList()) {
        String name = file.getFileName().toString().replace(".java", "");
        boolean due = !name.endsWith("Test") || readme.contains("| `" + name + "` |");
        Check.due("README.md lists " + name, due, true);
      }
    }
  }
}
