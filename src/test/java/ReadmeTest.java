import java.io.IOException;
import java.lang.reflect.Method;
import java.nio.charset.StandardCharsets;
import java.nio.file.Files;
import java.nio.file.Path;
import java.nio.file.Paths;
import java.util.List;
import java.util.regex.Matcher;
import java.util.regex.Pattern;
import java.util.stream.Collectors;
import java.util.stream.Stream;

/**
 * What README.md shows is so: the calls of its example answer what is told behind them, and it
 * names every test. It is run where README.md and src/test/java can be found.
 */
public final class ReadmeTest {
  private static final Check CHECK = new Check("ReadmeTest");
  private static final Pattern CALL =
      Pattern.compile("x\\.(\\w+)\\((.*)\\);(?: +// (?:(-?\\d+): )?.*)?");

  public static void main(String[] args) throws IOException, ReflectiveOperationException {
    String text = Files.readString(Paths.get("README.md"), StandardCharsets.UTF_8);
    example(text);
    names(text);
    CHECK.end();
  }

  private static void example(String text) throws ReflectiveOperationException {
    int from = text.indexOf("```java\n");
    int to = text.indexOf("```", from + 3);
    CHECK.isTrue("there is an example", from >= 0 && to > from);
    RecipeScaler x = new RecipeScaler();
    int told = 0;
    for (String line : text.substring(from, to).split("\n")) {
      Matcher matcher = CALL.matcher(line);
      if (!matcher.matches()) {
        continue;
      }
      long answer = answer(x, matcher.group(1), matcher.group(2));
      if (matcher.group(3) == null) {
        CHECK.isTrue("no error: " + line, answer >= 0);
      } else {
        CHECK.due(line, answer, Long.parseLong(matcher.group(3)));
        told++;
      }
    }
    CHECK.isTrue("answers are told: " + told, told >= 8);
  }

  private static long answer(RecipeScaler x, String name, String list)
      throws ReflectiveOperationException {
    String[] parts = list.isEmpty() ? new String[0] : list.split(", ");
    Class<?>[] types = new Class<?>[parts.length];
    Object[] values = new Object[parts.length];
    for (int i = 0; i < parts.length; i++) {
      types[i] = int.class;
      boolean isSign = parts[i].startsWith("'");
      values[i] = isSign ? Integer.valueOf(parts[i].charAt(1)) : Integer.valueOf(parts[i]);
    }
    Method method = RecipeScaler.class.getMethod(name, types);
    return ((Number) method.invoke(x, values)).longValue();
  }

  private static void names(String text) throws IOException {
    List<String> tests;
    try (Stream<Path> files = Files.list(Paths.get("src/test/java"))) {
      tests = files.map(file -> file.getFileName().toString().replace(".java", ""))
          .filter(name -> name.endsWith("Test")).sorted().collect(Collectors.toList());
    }
    CHECK.isTrue("tests are found", tests.size() > 10);
    for (String test : tests) {
      CHECK.isTrue("README.md tells of " + test, text.contains("`" + test + "`"));
    }
    Matcher named = Pattern.compile("`(\\w+Test)`").matcher(text);
    while (named.find()) {
      CHECK.isTrue("there is " + named.group(1), tests.contains(named.group(1)));
    }
  }
}
