import java.io.IOException;
import java.lang.reflect.Method;
import java.lang.reflect.Modifier;
import java.nio.file.Files;
import java.nio.file.Path;
import java.util.regex.Matcher;
import java.util.regex.Pattern;
import java.util.stream.Stream;

/** README.md: its example answers as it says, and it names each call, each class inside and each test. */
public final class ReadmeTests {
  private static final Pattern EXAMPLE = Pattern.compile("(?s)```java\n(.*?)```");
  private static final Pattern TEXT = Pattern.compile("String text = \"([^\"]*)\";");
  private static final Pattern ROW = Pattern.compile("x\\.(\\w+\\([-0-9, ]*\\)); +// (-?\\d+): .*");
  private static String page = "";

  public static void main(String[] args) throws IOException {
    page = Files.readString(Path.of("README.md"));
    Case.says("The public face");
    exampleAnswers();
    callsAreNamed();
    innerClassesAreNamed();
    testsAreNamed();
    Case.end();
  }

  private static void exampleAnswers() {
    Matcher example = EXAMPLE.matcher(page);
    Matcher text = TEXT.matcher(page);
    if (!example.find() || !text.find()) {
      Case.fail("README.md has no example");
      return;
    }
    Case x = new Case().types(text.group(1));
    int rows = 0;
    for (String line : example.group(1).split("\n")) {
      Matcher row = ROW.matcher(line);
      if (row.matches()) {
        x.then(row.group(1) + " = " + row.group(2));
        rows++;
      }
    }
    // Five lines make the object and type the text; each line behind them is a call with its answer.
    int calls = example.group(1).split("\n").length - 5;
    if (rows != calls || rows == 0) {
      Case.fail("of " + calls + " calls in README.md only " + rows + " tell their answer");
    }
  }

  private static void callsAreNamed() {
    for (Method m : OwedFalls.class.getDeclaredMethods()) {
      Pattern row = Pattern.compile("\n\\| `" + m.getName() + "\\(([^)]*)\\)` \\|");
      Matcher found = row.matcher(page);
      if (Modifier.isPublic(m.getModifiers())) {
        int told = !found.find() ? -1 : found.group(1).isEmpty() ? 0 : found.group(1).split(",").length;
        if (told != m.getParameterCount()) {
          Case.fail("README.md does not tell " + m.getName() + " as it is");
        }
      }
    }
  }

  private static void innerClassesAreNamed() {
    for (Class<?> inner : OwedFalls.class.getDeclaredClasses()) {
      if (!page.contains("`" + inner.getSimpleName() + "`")) {
        Case.fail("README.md does not name " + inner.getSimpleName());
      }
    }
  }

  private static void testsAreNamed() throws IOException {
    try (Stream<Path> files = Files.list(Path.of("src/test/java"))) {
      files.forEach(file -> {
        String name = file.getFileName().toString().replace(".java", "");
        if (!page.contains("`" + name + "`")) {
          Case.fail("README.md does not name " + name);
        }
      });
    }
    Matcher named = Pattern.compile("`(\\w+Tests)`").matcher(page);
    while (named.find()) {
      if (!Files.exists(Path.of("src/test/java/" + named.group(1) + ".java"))) {
        Case.fail("there is no " + named.group(1));
      }
    }
    if (!page.contains(".ci/run") || !Files.isExecutable(Path.of(".ci/run"))) {
      Case.fail("README.md does not say how to run the tests");
    }
  }
}
