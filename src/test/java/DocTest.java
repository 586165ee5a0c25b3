import java.io.IOException;
import java.nio.charset.StandardCharsets;
import java.nio.file.Files;
import java.nio.file.Path;
import java.nio.file.Paths;
import java.util.List;
import java.util.regex.Matcher;
import java.util.regex.Pattern;
import java.util.stream.Collectors;
import java.util.stream.Stream;

/**
 * Each sentence of the document's description and promises is quoted by a test, what the tests
 * quote stands in the document, and the program has the document's face. It is run where src and
 * ../shared/DOC.md can be found.
 */
public final class DocTest {
  private static final Check CHECK = new Check("DocTest");
  private static final Path DOC = Paths.get("../shared/DOC.md");
  private static final Path TESTS = Paths.get("src/test/java");
  private static final Path MAIN = Paths.get("src/main/java/RecipeScaler.java");
  private static final String TEXT = "\"(?:[^\"\\\\]|\\\\.)*\"";
  private static final Pattern QUOTE =
      Pattern.compile("CHECK\\.says\\(\\s*(" + TEXT + "(?:\\s*\\+\\s*" + TEXT + ")*)\\);");
  /** What says nothing that a test could find broken. */
  private static final List<String> NOT_TESTED = List.of("The constants",
      "The constructor and the methods follow, a promise each: the signature, then what it does");

  public static void main(String[] args) throws IOException {
    if (!Files.exists(DOC)) {
      System.out.println("DocTest: there is no " + DOC + " here");
      return;
    }
    String doc = Files.readString(DOC, StandardCharsets.UTF_8);
    face(doc, Files.readString(MAIN, StandardCharsets.UTF_8));
    String plain = doc.replaceAll("\\s+", " ");
    String promised = promised(doc);
    boolean[] isQuoted = new boolean[promised.length()];
    for (String quote : quotes()) {
      CHECK.isTrue("the document says: " + quote, plain.contains(quote));
      for (int at = promised.indexOf(quote); at >= 0; at = promised.indexOf(quote, at + 1)) {
        java.util.Arrays.fill(isQuoted, at, at + quote.length(), true);
      }
    }
    notQuoted(promised, isQuoted);
    CHECK.end();
  }

  /** The program's public lines are those of the document's face, each method also a promise's. */
  private static void face(String doc, String program) {
    int from = doc.indexOf("```java\n");
    int to = doc.indexOf("\n}\n```");
    CHECK.isTrue("there is a face", from >= 0 && to > from);
    String[] lines = doc.substring(from, to).split("\n");
    int faceLines = 0;
    for (String line : lines) {
      if (!line.trim().startsWith("public ")) {
        continue;
      }
      faceLines++;
      boolean isHead = line.endsWith(");");
      String due = (isHead ? line.replace(");", ") {") : line).trim();
      CHECK.isTrue("the program has: " + due, program.contains("\n" + (line.startsWith(" ")
          ? "  " : "") + due + "\n"));
      String signature = line.trim().replace("public ", "").replace(";", "");
      CHECK.isTrue("a promise of: " + signature, !isHead || doc.contains("`" + signature + "`"));
    }
    CHECK.due("lines of the face", faceLines, 33);
    CHECK.due("public lines", program.split("(?m)^ *public ").length - 1, faceLines);
  }

  /** The description and the promises without their heads and signatures, on one line. */
  private static String promised(String doc) {
    int from = doc.indexOf("## Description");
    int to = doc.indexOf("## Not promised");
    CHECK.isTrue("there is a description", from >= 0);
    CHECK.isTrue("there is what is not promised", to > from);
    String text = doc.substring(Math.max(from, 0), to > from ? to : doc.length());
    text = text.replaceAll("(?m)^#.*$", "").replaceAll("(?m)^`.*\\)`$", "");
    text = text.replaceAll("(?m)^(Fractions|Ingredients|Recipes|What is needed|Plans|Substitutions"
        + "|Shopping|Allergens|Changes|Snapshot|Errors)\\. ", "");
    return text.replaceAll("\\s+", " ");
  }

  private static void notQuoted(String promised, boolean[] isQuoted) {
    StringBuilder rest = new StringBuilder();
    for (int i = 0; i < isQuoted.length; i++) {
      rest.append(isQuoted[i] ? '\n' : promised.charAt(i));
    }
    for (String part : rest.toString().split("\n+")) {
      String words = part.replaceAll("^[^A-Za-z0-9]+|[^A-Za-z0-9]+$", "");
      boolean isFree = words.isEmpty() || NOT_TESTED.contains(words);
      CHECK.isTrue("a test quotes: " + words, isFree);
    }
  }

  private static List<String> quotes() throws IOException {
    try (Stream<Path> files = Files.list(TESTS)) {
      return files.filter(file -> file.toString().endsWith("Test.java")).sorted()
          .flatMap(DocTest::quotesOf).collect(Collectors.toList());
    }
  }

  private static Stream<String> quotesOf(Path file) {
    try {
      String source = Files.readString(file, StandardCharsets.UTF_8);
      return QUOTE.matcher(source).results().map(found -> joined(found.group(1)));
    } catch (IOException e) {
      throw new java.io.UncheckedIOException(e);
    }
  }

  /** The value of one or more texts in quotes that are joined by plus signs. */
  private static String joined(String source) {
    Matcher matcher = Pattern.compile(TEXT).matcher(source);
    StringBuilder value = new StringBuilder();
    while (matcher.find()) {
      String text = matcher.group();
      value.append(text, 1, text.length() - 1);
    }
    return value.toString().replace("\\\"", "\"");
  }
}
