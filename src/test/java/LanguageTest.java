import java.io.IOException;
import java.lang.reflect.Constructor;
import java.lang.reflect.Field;
import java.lang.reflect.Method;
import java.lang.reflect.Modifier;
import java.nio.charset.StandardCharsets;
import java.nio.file.Files;
import java.nio.file.Paths;
import java.util.Arrays;
import java.util.Set;
import java.util.TreeSet;
import java.util.regex.Matcher;
import java.util.regex.Pattern;

/**
 * The face of the class, and those rules of LANGUAGE.md that can be seen in the classes or in the
 * text of the program. It is run where src/main/java/RecipeScaler.java can be found.
 */
public final class LanguageTest {
  private static final Check CHECK = new Check("LanguageTest");
  private static final String[] METHODS = {"feed 6", "read 0", "removeRecipe 1", "density 3",
      "weight 3", "allergens 3", "stock 2", "pack 3", "removePack 1", "substitute 6",
      "removeSubstitution 1", "scale 3", "pan 2", "buy 0", "recipe 2", "item 3", "needed 3 long",
      "reason 0", "applied 2 long", "shopping 2", "account 1", "risk 1", "path 2", "again 2 long",
      "possible 2 long", "back 0", "image 0", "undo 0", "count 1"};
  private static final String[] FORBIDDEN = {"throw", "throws", "try", "catch", "synchronized",
      "assert", "instanceof", "->", "::", "import", "package", "volatile", "transient", "native",
      "\"", "equals", "hashCode", "toString", "Exact", "System", "Thread", "Object", "Exception",
      "float", "double", "protected", "this;", "String"};

  public static void main(String[] args) throws IOException {
    face();
    classes();
    byte[] bytes = Files.readAllBytes(Paths.get("src/main/java/RecipeScaler.java"));
    String text = new String(bytes, StandardCharsets.ISO_8859_1);
    signs(text);
    words(text);
    methodLengths(text);
    CHECK.end();
  }

  private static void face() {
    Class<?> face = RecipeScaler.class;
    CHECK.due("modifiers", face.getModifiers(), Modifier.PUBLIC | Modifier.FINAL);
    Constructor<?>[] constructors = face.getDeclaredConstructors();
    CHECK.due("constructors", constructors.length, 1);
    CHECK.due("its modifiers", constructors[0].getModifiers(), Modifier.PUBLIC);
    CHECK.due("its parameters", constructors[0].getParameterCount(), 0);
    Set<String> found = new TreeSet<>();
    Set<String> names = new TreeSet<>();
    for (Method method : face.getDeclaredMethods()) {
      if (Modifier.isPrivate(method.getModifiers())) {
        continue;
      }
      CHECK.due("modifiers of " + method, method.getModifiers(), Modifier.PUBLIC);
      for (Class<?> type : method.getParameterTypes()) {
        CHECK.isTrue("parameters of " + method, type == int.class);
      }
      String type = method.getReturnType() == int.class ? "" : " " + method.getReturnType();
      found.add(method.getName() + " " + method.getParameterCount() + type);
      names.add(method.getName());
    }
    Set<String> due = new TreeSet<>(Arrays.asList(METHODS));
    CHECK.isTrue("methods " + found, found.equals(due));
    for (Method method : face.getDeclaredMethods()) {
      if (Modifier.isPrivate(method.getModifiers())) {
        CHECK.isTrue("private " + method, !names.contains(method.getName()));
      }
    }
    Set<String> constants = new TreeSet<>();
    for (Field field : face.getDeclaredFields()) {
      if (!Modifier.isPrivate(field.getModifiers())) {
        constants.add(Modifier.toString(field.getModifiers()) + " " + field.getType() + " "
            + field.getName());
      }
    }
    CHECK.isTrue("constants " + constants, constants.equals(new TreeSet<>(Arrays.asList(
        "public static final int NONE", "public static final int BAD",
        "public static final int STATE", "public static final int FULL",
        "public static final long NO"))));
  }

  private static void classes() {
    Class<?>[] inner = RecipeScaler.class.getDeclaredClasses();
    CHECK.isTrue("at most 12 classes: " + (inner.length + 1), inner.length + 1 <= 12);
    shape(RecipeScaler.class);
    for (Class<?> one : inner) {
      int modifiers = one.getModifiers();
      CHECK.isTrue("static " + one, Modifier.isStatic(modifiers));
      CHECK.isTrue("private " + one, Modifier.isPrivate(modifiers));
      CHECK.due("classes in " + one, one.getDeclaredClasses().length, 0);
      shape(one);
    }
  }

  private static void shape(Class<?> one) {
    int fields = 0;
    for (Field field : one.getDeclaredFields()) {
      boolean isStatic = Modifier.isStatic(field.getModifiers());
      fields += isStatic ? 0 : 1;
      CHECK.isTrue("final " + field, !isStatic || Modifier.isFinal(field.getModifiers()));
    }
    CHECK.isTrue("at most 20 fields in " + one + ": " + fields, fields <= 20);
    for (Method method : one.getDeclaredMethods()) {
      CHECK.isTrue("at most 7 parameters: " + method, method.getParameterCount() <= 7);
    }
  }

  private static void signs(String text) {
    for (int i = 0; i < text.length(); i++) {
      char sign = text.charAt(i);
      if (sign != '\n' && (sign < ' ' || sign > '~')) {
        CHECK.due("a sign at " + i, sign, ' ');
      }
    }
  }

  private static void words(String text) {
    String code = text.replaceAll("(?s)/\\*.*?\\*/", " ").replaceAll("//[^\n]*", " ");
    for (String word : FORBIDDEN) {
      String border = Character.isLetter(word.charAt(0)) ? "\\b" : "";
      Matcher matcher = Pattern.compile(border + Pattern.quote(word) + border).matcher(code);
      CHECK.isTrue("no " + word, !matcher.find());
    }
    CHECK.isTrue("no arrays of arrays", !code.contains("[]["));
  }

  private static void methodLengths(String text) {
    String[] lines = text.split("\n");
    Pattern head = Pattern.compile("( {2}| {4})[a-zA-Z][^=;]*\\(.*\\) \\{");
    int methods = 0;
    for (int i = 0; i < lines.length; i++) {
      Matcher matcher = head.matcher(lines[i]);
      if (!matcher.matches() || lines[i].trim().matches("(if|for|switch|while) .*")) {
        continue;
      }
      methods++;
      int end = i;
      while (end < lines.length && !lines[end].equals(matcher.group(1) + "}")) {
        end++;
      }
      CHECK.isTrue("at most 60 lines:" + lines[i], end - i < 60);
    }
    CHECK.isTrue("methods are found", methods > 100);
  }
}
