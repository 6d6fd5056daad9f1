import java.io.IOException;
import java.lang.reflect.Field;
import java.lang.reflect.Method;
import java.lang.reflect.Modifier;
import java.nio.file.Files;
import java.nio.file.Path;
import java.util.ArrayList;
import java.util.List;
import java.util.regex.Matcher;
import java.util.regex.Pattern;

/** What of LANGUAGE.md can be seen in the text of the program. */
final class LanguageTests {
  private LanguageTests() {
  }

  static void run(String file) {
    Check.test("LANGUAGE.md: no word outside it", () -> noWord(code(file)));
    Check.test("LANGUAGE.md: the library", () -> library(code(file)));
    Check.test("LANGUAGE.md: static fields are final", () -> staticFields(code(file)));
    Check.test("LANGUAGE.md: short methods", () -> shortMethods(file));
    Check.test("LANGUAGE.md: few parameters and fields", LanguageTests::fewParametersAndFields);
    Check.test("LANGUAGE.md: texts are not joined by +", () -> noJoin(file));
    Check.test("LANGUAGE.md: signs 1 to 127", () -> plainSigns(file));
  }

  /** The program without comments, and with empty texts and signs. */
  private static String code(String file) throws IOException {
    return Files.readString(Path.of(file))
        .replaceAll("(?s)/\\*.*?\\*/", "")
        .replaceAll("//[^\n]*", "")
        .replaceAll("\"[^\"\n]*\"", "\"\"")
        .replaceAll("'[^'\n]*'", "0");
  }

  private static void noWord(String code) {
    String[] words = {"import", "package", "synchronized", "assert", "finally", "volatile", "native",
        "instanceof", "try", "catch", "protected", "->", "::", "while", "System.out", "System.exit",
        "Thread", "Random", "currentTimeMillis", "nanoTime", "doubleToLongBits", "Exact", "equals",
        "hashCode", "toString", "static {", "Object", "this."};
    for (String word : words) {
      String seen = Character.isLetter(word.charAt(0)) ? "\\b" + Pattern.quote(word) : Pattern.quote(word);
      Check.holds("no " + word, !Pattern.compile(seen).matcher(code).find());
    }
  }

  private static void library(String code) {
    List<String> allowed = List.of("Integer.bitCount", "Long.bitCount", "Math.max", "Math.min",
        "System.arraycopy");
    Matcher calls = Pattern.compile("\\b(?:Integer|Long|Math|System|Arrays|Double|Character|String|List)\\.\\w+")
        .matcher(code);
    while (calls.find()) {
      Check.holds(calls.group() + " is allowed", allowed.contains(calls.group()));
    }
    Matcher thrown = Pattern.compile("throw [^;]*;").matcher(code);
    while (thrown.find()) {
      Check.holds(thrown.group(), thrown.group()
          .matches("throw new (IllegalState|IllegalArgument|IndexOutOfBounds)Exception\\(\"\"\\);"));
    }
  }

  private static void staticFields(String code) {
    for (String line : code.split("\n")) {
      if (line.contains("static") && !line.contains("(") && !line.contains(" class ")) {
        Check.holds(line, line.contains("private static final"));
      }
    }
  }

  private static void shortMethods(String file) throws IOException {
    List<String> lines = new ArrayList<>(Files.readAllLines(Path.of(file)));
    String start = null;
    int from = 0;
    for (int i = 0; i < lines.size(); i++) {
      String line = lines.get(i);
      Check.holds("line " + (i + 1) + " is short", line.length() <= 100);
      if (line.matches("( {2}| {4})(public|private)[^=;]*\\(.*") || line.matches(" {6}throws .*\\{")) {
        start = start == null ? line : start;
        from = i;
      }
      if (start != null && line.matches("( {2}| {4})\\}")) {
        Check.holds(start + " has at most 60 lines", i - from <= 60);
        start = null;
      }
    }
  }

  private static void fewParametersAndFields() {
    List<Class<?>> all = new ArrayList<>(List.of(RunFaxes.class.getDeclaredClasses()));
    all.add(RunFaxes.class);
    for (Class<?> one : all) {
      for (Method method : one.getDeclaredMethods()) {
        Check.holds(method + " takes at most seven", method.getParameterCount() <= 7);
      }
      int fields = 0;
      for (Field field : one.getDeclaredFields()) {
        fields += Modifier.isStatic(field.getModifiers()) ? 0 : 1;
      }
      Check.holds(one + " has at most twenty fields", fields <= 20);
    }
  }

  private static void noJoin(String file) throws IOException {
    for (String line : Files.readAllLines(Path.of(file))) {
      Check.holds(line, !line.matches(".*(\" *\\+|\\+ *\").*"));
    }
  }

  private static void plainSigns(String file) throws IOException {
    for (byte sign : Files.readAllBytes(Path.of(file))) {
      Check.holds("a sign from 1 to 127", sign > 0);
    }
  }
}
