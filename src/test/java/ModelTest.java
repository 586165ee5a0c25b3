import java.lang.reflect.InvocationTargetException;
import java.lang.reflect.Method;
import java.util.ArrayList;
import java.util.Arrays;
import java.util.HashMap;
import java.util.List;
import java.util.Map;
import java.util.Random;

/**
 * Random runs of calls on a new RecipeScaler and a new PlainModel, whose answers have to be the
 * same ones. The seeds are fixed, so that a run that fails can be run again; a first argument is
 * the number of runs, a second one the first seed.
 */
public final class ModelTest {
  private static final int CALLS = 512;
  private static final int[] EXTREMES = {Integer.MIN_VALUE, Integer.MIN_VALUE + 1, -101, -6, -5,
      -4, -3, -2, -1, 0, 1, 2, 3, 4, 5, 6, 7, 8, 9, 10, 11, 12, 13, 20, 31, 32, 52, 60, 127, 128,
      255, 256, 999, 1000, 2000, 2001, 5000, 9999, 10000, 65536, 999999, 1000000,
      Integer.MAX_VALUE - 1, Integer.MAX_VALUE};
  private static final Map<String, Method> REAL = methods(RecipeScaler.class);
  private static final Map<String, Method> MODEL = methods(PlainModel.class);
  private static final String[] NAMES = REAL.keySet().stream().sorted().toArray(String[]::new);

  private final Random random;
  private final RecipeScaler real = new RecipeScaler();
  private final PlainModel model = new PlainModel();
  private final List<String> log = new ArrayList<>();
  private final boolean isSmall;
  private boolean isWrong = false;

  private ModelTest(long seed) {
    random = new Random(seed);
    isSmall = random.nextInt(4) > 0;
  }

  public static void main(String[] args) {
    int runs = args.length > 0 ? Integer.parseInt(args[0]) : 1500;
    long first = args.length > 1 ? Long.parseLong(args[1]) : 1;
    int wrong = 0;
    Map<String, Integer> answers = new HashMap<>();
    for (long seed = first; seed < first + runs && wrong < 3; seed++) {
      ModelTest test = new ModelTest(seed);
      test.run(answers);
      if (test.isWrong) {
        wrong++;
        System.out.println("seed " + seed + ": the last of these calls is wrong");
        test.log.forEach(System.out::println);
      }
    }
    System.out.println("ModelTest: " + runs + " runs, " + wrong + " wrong");
    if (args.length > 0) {
      answers.entrySet().stream().sorted(Map.Entry.comparingByKey()).forEach(System.out::println);
    }
    if (wrong != 0) {
      System.exit(1);
    }
  }

  private static Map<String, Method> methods(Class<?> face) {
    Map<String, Method> methods = new HashMap<>();
    for (Method method : face.getDeclaredMethods()) {
      if (java.lang.reflect.Modifier.isPublic(method.getModifiers())) {
        methods.put(method.getName(), method);
      }
    }
    return methods;
  }

  private void run(Map<String, Integer> answers) {
    furnish();
    while (log.size() < CALLS && !isWrong) {
      int kind = random.nextInt(100);
      if (kind < 12) {
        feedText(recipeText(random.nextInt(8)));
        call("read");
      } else if (kind < 14) {
        call(NAMES[random.nextInt(NAMES.length)], extremes());
      } else if (kind < 60) {
        ask();
      } else {
        change();
      }
      if (!isWrong && !log.isEmpty()) {
        String last = log.get(log.size() - 1);
        String answer = last.substring(last.indexOf('=') + 2);
        String sort = answer.length() > 10 ? "NO" : answer.charAt(0) == '-' ? answer : "right";
        answers.merge(last.substring(0, last.indexOf('(')) + " " + sort, 1, Integer::sum);
      }
    }
  }

  private void furnish() {
    for (int i = 0; i < 12 && random.nextInt(8) > 0; i++) {
      call("density", i, random.nextInt(5), 1 + random.nextInt(5));
      call("weight", i, random.nextInt(60), 1 + random.nextInt(4));
    }
    for (int r = 7; r >= 0; r--) {
      if (random.nextInt(10) > 0) {
        feedText(recipeText(r));
        call("read");
      }
    }
  }

  private int[] extremes() {
    int[] args = new int[6];
    for (int i = 0; i < 6; i++) {
      args[i] = random.nextInt(3) == 0 ? EXTREMES[random.nextInt(EXTREMES.length)]
          : random.nextInt(12);
    }
    return args;
  }

  /** A call with the first of the arguments, as many as it has. */
  private void call(String name, int... args) {
    if (isWrong || log.size() >= CALLS) {
      return;
    }
    Method method = REAL.get(name);
    Object[] given = new Object[method.getParameterCount()];
    for (int i = 0; i < given.length; i++) {
      given[i] = i < args.length ? args[i] : 0;
    }
    String got = answer(method, real, given);
    String due = answer(MODEL.get(name), model, given);
    log.add(name + Arrays.toString(given).replace('[', '(').replace(']', ')') + " = " + got);
    if (!got.equals(due)) {
      isWrong = true;
      log.add("due is " + due);
    }
  }

  private static String answer(Method method, Object object, Object[] args) {
    try {
      return method.invoke(object, args).toString();
    } catch (InvocationTargetException thrown) {
      return "thrown: " + thrown.getCause();
    } catch (IllegalAccessException e) {
      throw new IllegalStateException(e);
    }
  }

  private void feedText(String text) {
    for (int i = 0; i < text.length(); i += 5) {
      int n = Math.min(5, text.length() - i);
      int[] args = new int[6];
      args[0] = n;
      for (int k = 0; k < n; k++) {
        args[1 + k] = text.charAt(i + k);
      }
      call("feed", args);
    }
  }

  private String recipeText(int number) {
    StringBuilder text = new StringBuilder().append(number).append(':');
    int items = random.nextInt(40) == 0 ? 7 : 1 + random.nextInt(random.nextBoolean() ? 3 : 6);
    for (int i = 0; i < items; i++) {
      text.append(i == 0 ? "" : ",").append(amount(items)).append(source(number));
    }
    text.append('=').append(amount(items)).append(recipeUnit(number));
    if (random.nextInt(2) == 0) {
      text.append('@').append(1 + random.nextInt(999));
    }
    if (random.nextInt(12) == 0) {
      int at = random.nextInt(text.length());
      switch (random.nextInt(3)) {
        case 0:
          text.setCharAt(at, "0:1/9gmplkax,=@".charAt(random.nextInt(15)));
          break;
        case 1:
          text.setLength(at);
          break;
        default:
          text.insert(at, "0:1/9gmplkax,=@".charAt(random.nextInt(15)));
      }
    }
    return text.length() > 60 ? text.substring(0, 60) : text.toString();
  }

  private String amount(int items) {
    int most = isSmall || random.nextInt(6) > 0 ? 9 : 999;
    String up = String.valueOf(1 + random.nextInt(most));
    return items > 4 || random.nextInt(3) > 0 ? up : up + "/" + (1 + random.nextInt(most));
  }

  /** Mostly ingredients and recipes of greater numbers, so that most recipes can be found. */
  private String source(int number) {
    int kind = random.nextInt(100);
    if (kind < 35 && number < 7) {
      int inner = number + 1 + random.nextInt(7 - number);
      return recipeUnit(inner) + "" + inner;
    }
    if (kind < 37) {
      return recipeUnit(0) + "" + random.nextInt(8);
    }
    char unit = "gggmp".charAt(random.nextInt(5));
    return unit + "" + (char) ('a' + random.nextInt(12));
  }

  private char recipeUnit(int number) {
    return "gmp".charAt(random.nextInt(30) == 0 ? random.nextInt(3) : number % 3);
  }

  private void change() {
    int i = random.nextInt(12);
    switch (random.nextInt(15)) {
      case 0:
        call("density", i, random.nextInt(12) - 1, 1 + random.nextInt(9));
        break;
      case 1:
        call("weight", i, random.nextInt(isSmall ? 20 : 9999) - 1, 1 + random.nextInt(9));
        break;
      case 2:
        call("allergens", i, random.nextInt(256) & random.nextInt(256), random.nextInt(256));
        break;
      case 3:
        call("stock", i, random.nextInt(random.nextBoolean() ? 60 : 1000000));
        break;
      case 4:
      case 5:
        int size = random.nextBoolean() ? 10 + random.nextInt(50) : 60 + random.nextInt(1941);
        call("pack", i, size, random.nextBoolean() ? 10 * random.nextInt(9) : random.nextInt(1000));
        break;
      case 6:
        call("removePack", i);
        break;
      case 7:
        int kind = random.nextInt(4);
        int v = kind == 1 ? random.nextInt(8) : kind == 2 ? random.nextInt(300) : 0;
        int ratio = random.nextInt(9) == 0 ? 999 : 9;
        call("substitute", i, random.nextInt(12), 1 + random.nextInt(ratio),
            1 + random.nextInt(ratio), kind, v);
        break;
      case 8:
        call("removeSubstitution", random.nextInt(4));
        break;
      case 9:
      case 10:
        int most = isSmall ? 6 : 9999;
        call("scale", random.nextInt(8), 1 + random.nextInt(most), 1 + random.nextInt(most));
        break;
      case 11:
        call("pan", random.nextInt(8), 1 + random.nextInt(9999));
        break;
      case 12:
        call("buy");
        break;
      case 13:
        call(random.nextInt(3) > 0 ? "back" : "removeRecipe", random.nextInt(8));
        break;
      default:
        call(random.nextInt(8) == 0 ? "undo" : "image");
    }
  }

  private void ask() {
    int i = random.nextInt(12);
    int part = random.nextInt(2);
    switch (random.nextInt(11)) {
      case 0:
        call("needed", i, random.nextInt(2), part);
        break;
      case 1:
        call("again", i, part);
        break;
      case 2:
        call("possible", random.nextInt(8), part);
        break;
      case 3:
        call("applied", random.nextInt(4), random.nextInt(3));
        break;
      case 4:
        call("shopping", i, random.nextBoolean() ? random.nextInt(4) : 10 + random.nextInt(3));
        break;
      case 5:
        call("account", random.nextInt(5));
        break;
      case 6:
        call("risk", part);
        break;
      case 7:
        call("path", random.nextInt(8), random.nextInt(5) - 1);
        break;
      case 8:
        call("recipe", random.nextInt(8), random.nextInt(8));
        break;
      case 9:
        call("item", random.nextInt(8), random.nextInt(6), random.nextInt(4));
        break;
      default:
        call(random.nextInt(3) == 0 ? "reason" : "count", random.nextInt(52));
    }
  }
}
