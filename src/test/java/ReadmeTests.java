import java.io.ByteArrayOutputStream;
import java.io.PrintStream;
import java.lang.reflect.Method;
import java.lang.reflect.Modifier;
import java.net.URI;
import java.net.URL;
import java.net.URLClassLoader;
import java.nio.charset.StandardCharsets;
import java.nio.file.Files;
import java.nio.file.Path;
import java.util.List;
import java.util.stream.Collectors;
import java.util.stream.Stream;
import javax.tools.JavaCompiler;
import javax.tools.JavaFileObject;
import javax.tools.SimpleJavaFileObject;
import javax.tools.StandardJavaFileManager;
import javax.tools.ToolProvider;

/** README.md: it tells each call, and its example prints what it tells. */
final class ReadmeTests {
  private ReadmeTests() {
  }

  static void run(String file) {
    Check.test("README.md: each call with its arguments", () -> eachCall(Files.readString(Path.of(file))));
    Check.test("README.md: what the example prints", () -> example(Files.readString(Path.of(file))));
    Check.test("README.md: each class of tests", () -> eachTest(Path.of(file)));
  }

  private static void eachCall(String readme) {
    for (Method method : RunFaxes.class.getDeclaredMethods()) {
      if (Modifier.isPublic(method.getModifiers())) {
        String call = "`" + method.getName() + "(" + (method.getParameterCount() == 0 ? ")`" : "");
        Check.holds("a row of a table tells " + call, readme.lines().anyMatch(
            line -> line.startsWith("| `") && line.contains(call)));
      }
    }
  }

  private static void eachTest(Path file) throws Exception {
    String readme = Files.readString(file);
    try (Stream<Path> tests = Files.list(file.toAbsolutePath().resolveSibling("src/test/java"))) {
      List<String> helpers = List.of("Check", "Digests", "Make");
      for (String name : tests.map(test -> test.getFileName().toString().replace(".java", ""))
          .filter(name -> !helpers.contains(name)).collect(Collectors.toList())) {
        Check.holds(name + " is told", readme.contains("`" + name + "`"));
      }
    }
  }

  private static String block(String readme, String kind) {
    String start = "```" + kind + "\n";
    int from = readme.indexOf(start) + start.length();
    return readme.substring(from, readme.indexOf("```", from));
  }

  private static void example(String readme) throws Exception {
    Path out = Files.createTempDirectory("example");
    try {
      compile(block(readme, "java"), out);
      Check.same("what the example prints", printed(out), block(readme, "text"));
    } finally {
      Files.deleteIfExists(out.resolve("Example.class"));
      Files.delete(out);
    }
  }

  private static void compile(String example, Path out) throws Exception {
    JavaCompiler compiler = ToolProvider.getSystemJavaCompiler();
    JavaFileObject source =
        new SimpleJavaFileObject(URI.create("string:///Example.java"), JavaFileObject.Kind.SOURCE) {
          @Override
          public CharSequence getCharContent(boolean ignoreEncodingErrors) {
            return example;
          }
        };
    List<String> options =
        List.of("-Xlint:all", "-Werror", "-cp", System.getProperty("java.class.path"), "-d", out.toString());
    try (StandardJavaFileManager files = compiler.getStandardFileManager(null, null, null)) {
      Check.holds("the example compiles", compiler.getTask(
          null, files, null, options, null, List.of(source)).call());
    }
  }

  private static String printed(Path out) throws Exception {
    PrintStream before = System.out;
    ByteArrayOutputStream bytes = new ByteArrayOutputStream();
    try (URLClassLoader loader = new URLClassLoader(new URL[] {out.toUri().toURL()});
        PrintStream into = new PrintStream(bytes, true, StandardCharsets.UTF_8)) {
      System.setOut(into);
      loader.loadClass("Example").getMethod("main", String[].class).invoke(null, (Object) new String[0]);
    } finally {
      System.setOut(before);
    }
    return bytes.toString(StandardCharsets.UTF_8).replace("\r\n", "\n");
  }
}
