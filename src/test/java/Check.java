/** Compares answers with those that are due, and ends a test with exit code 1 if one was wrong. */
final class Check {
  static final int[] NO_INGREDIENTS = {-1, 12, Integer.MIN_VALUE, Integer.MAX_VALUE};
  static final int[] NO_RECIPES = {-1, 8, Integer.MIN_VALUE, Integer.MAX_VALUE};
  /** Neither 0 nor 1, for selectors that are one of these. */
  static final int[] NO_PARTS = {-1, 2, Integer.MIN_VALUE, Integer.MAX_VALUE};

  private final String test;
  private int compared = 0;
  private int wrong = 0;
  private String words = "";
  private int comparedForWords = 1;

  Check(String test) {
    this.test = test;
  }

  /** The words of DOC.md that the answers behind this call belong to; DocTest looks them up. */
  void says(String wordsOfDoc) {
    isAnswered();
    words = wordsOfDoc;
    comparedForWords = 0;
  }

  void due(String call, long got, long want) {
    due(call, String.valueOf(got), String.valueOf(want));
  }

  void due(String call, String got, String want) {
    compared++;
    comparedForWords++;
    if (!got.equals(want)) {
      wrong++;
      System.out.println(test + ": " + call + " answered " + got + ", due is " + want);
      if (!words.isEmpty()) {
        System.out.println("  where the document says: " + words);
      }
    }
  }

  void isTrue(String what, boolean holds) {
    due(what, holds ? 1 : 0, 1);
  }

  void end() {
    isAnswered();
    System.out.println(test + ": " + compared + " answers, " + wrong + " wrong");
    if (wrong != 0) {
      System.exit(1);
    }
  }

  private void isAnswered() {
    if (comparedForWords == 0) {
      wrong++;
      System.out.println(test + ": nothing is compared for the words: " + words);
    }
  }

  /** Feeds a text to the tape; the answer of the last feed. */
  static int feed(RecipeScaler x, String text) {
    int answer = 0;
    for (int i = 0; i < text.length(); i += 5) {
      int n = Math.min(5, text.length() - i);
      int[] b = new int[5];
      for (int k = 0; k < n; k++) {
        b[k] = text.charAt(i + k);
      }
      answer = x.feed(n, b[0], b[1], b[2], b[3], b[4]);
    }
    return answer;
  }

  static int read(RecipeScaler x, String text) {
    feed(x, text);
    return x.read();
  }

  /** A new object that has read the texts, all of them right ones. */
  static RecipeScaler with(String... texts) {
    RecipeScaler x = new RecipeScaler();
    for (String text : texts) {
      if (read(x, text) < 0) {
        throw new IllegalArgumentException("a wrong text in a test: " + text);
      }
    }
    return x;
  }

  /** A new object that has read the texts, with a plan for one yield of the first one's recipe. */
  static RecipeScaler planned(String... texts) {
    RecipeScaler x = with(texts);
    x.scale(texts[0].charAt(0) - '0', 1, 1);
    return x;
  }

  /** A plan that needs so many grams of a, and packs of a by size and price. */
  static RecipeScaler lacking(int grams, int... packs) {
    RecipeScaler x = with("0:1ga=1g");
    x.scale(0, grams, 1);
    for (int i = 0; i < packs.length; i += 2) {
      x.pack(0, packs[i], packs[i + 1]);
    }
    return x;
  }

  /** What is needed as one text, so that a fraction is compared at once; "NO" if it is NO. */
  static String needed(RecipeScaler x, int ingredient, int isAfter) {
    return fraction(x.needed(ingredient, isAfter, 0), x.needed(ingredient, isAfter, 1));
  }

  static String again(RecipeScaler x, int ingredient) {
    return fraction(x.again(ingredient, 0), x.again(ingredient, 1));
  }

  static String possible(RecipeScaler x, int recipe) {
    return fraction(x.possible(recipe, 0), x.possible(recipe, 1));
  }

  /** Whether a substitution applies, and what it takes away. */
  static String applied(RecipeScaler x, int substitution) {
    long holds = x.applied(substitution, 0);
    String away = fraction(x.applied(substitution, 1), x.applied(substitution, 2));
    return holds == RecipeScaler.NO ? away : holds + " " + away;
  }

  private static String fraction(long up, long down) {
    return up == RecipeScaler.NO && down == RecipeScaler.NO ? "NO" : up + "/" + down;
  }

  /** The reason that a new object gives for a plan of one yield of the first text's recipe. */
  static int reasonOf(String... texts) {
    return planned(texts).reason();
  }
}
