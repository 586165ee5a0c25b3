/** Compares answers with those that are due, and ends a test with exit code 1 if one was wrong. */
final class Check {
  private final String test;
  private int compared = 0;
  private int wrong = 0;

  Check(String test) {
    this.test = test;
  }

  void due(String call, long got, long want) {
    compared++;
    if (got != want) {
      wrong++;
      System.out.println(test + ": " + call + " answered " + got + ", due is " + want);
    }
  }

  void isTrue(String what, boolean holds) {
    due(what, holds ? 1 : 0, 1);
  }

  void end() {
    System.out.println(test + ": " + compared + " answers, " + wrong + " wrong");
    if (wrong != 0) {
      System.exit(1);
    }
  }

  /** Feeds a text to the tape; the answer of the last feed. */
  static int feed(RecipeScaler x, String text) {
    int answer = 0;
    for (int i = 0; i < text.length(); i += 5) {
      int n = Math.min(5, text.length() - i);
      int[] b = new int[5];
      for (int k = 0; k < n; k++) {
        b[k] = text.charAt(i + k);
      }
      answer = x.feed(n, b[0], b[1], b[2], b[3], b[4]);
    }
    return answer;
  }

  static int read(RecipeScaler x, String text) {
    feed(x, text);
    return x.read();
  }

  /** A new object that has read the texts, all of them right ones. */
  static RecipeScaler with(String... texts) {
    RecipeScaler x = new RecipeScaler();
    for (String text : texts) {
      if (read(x, text) < 0) {
        throw new IllegalArgumentException("a wrong text in a test: " + text);
      }
    }
    return x;
  }
}
