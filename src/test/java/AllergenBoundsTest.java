/** The words on allergens, and on promises 23 and 24. */
public final class AllergenBoundsTest {
  private static final Check CHECK = new Check("AllergenBoundsTest");

  public static void main(String[] args) {
    contained();
    traces();
    paths();
    theFirstPath();
    reasonsDoNotMatter();
    risk();
    path();
    pathErrors();
    loops();
    noPath();
    CHECK.end();
  }

  private static void contained() {
    CHECK.says("The allergens of a plan are those that are contained in an ingredient of which more "
        + "than 0 is needed after the substitutions;");
    for (int i = 0; i < 12; i++) {
      RecipeScaler x = Check.planned("0:1g1=1g", "1:1/999m" + (char) ('a' + i) + "=999g");
      x.allergens(i, 1 << i % 8, 0);
      x.density(i, 1, 1);
      CHECK.due("very little of " + i, x.risk(0), 1 << i % 8);
      x.density(i, 0, 1);
      CHECK.due("0 of " + i, x.risk(0), 0);
      x.density(i, 1, 9);
      x.substitute(i, (i + 1) % 12, 1, 1, 0, 0);
      CHECK.due("0 behind a substitution of " + i, x.risk(0), 0);
      x.allergens((i + 1) % 12, 128 | 1 << i % 8, 0);
      CHECK.due("what replaces it", x.risk(0), 128 | 1 << i % 8);
    }
    RecipeScaler x = Check.planned("0:5ga,1gb=1g");
    x.allergens(0, 1, 0);
    x.allergens(1, 6, 0);
    CHECK.due("of two", x.risk(0), 7);
    x.stock(0, 4);
    x.substitute(0, 2, 1, 1, 3, 0);
    CHECK.due("where some is left", x.risk(0), 7);
    x.stock(0, 0);
    CHECK.due("where nothing is left", x.risk(0), 6);
    x.stock(0, 5);
    CHECK.due("the stock itself does not matter", x.risk(0), 7);
  }

  private static void traces() {
    CHECK.says("its traces are those of which such an ingredient has traces, as far as they are not "
        + "allergens of the plan.");
    for (int i = 0; i < 12; i++) {
      RecipeScaler x = Check.planned("0:1m" + (char) ('a' + i) + ",1g" + (char) ('a' + (i + 1) % 12)
          + "=1g");
      x.density(i, 1, 9999);
      x.allergens(i, 0, 1 << i % 8);
      CHECK.due("very little of " + i, x.risk(1), 1 << i % 8);
      x.allergens(i, 1 << i % 8, 1 << i % 8);
      CHECK.due("not if it contains it as well " + i, x.risk(1), 0);
      CHECK.due("but contained " + i, x.risk(0), 1 << i % 8);
      x.allergens(i, 0, 255);
      x.allergens((i + 1) % 12, 15, 0);
      CHECK.due("not if another one contains it " + i, x.risk(1), 240);
      x.density(i, 0, 1);
      CHECK.due("0 of " + i, x.risk(1), 0);
      x.density(i, 1, 1);
      x.substitute((i + 1) % 12, (i + 2) % 12, 1, 1, 0, 0);
      CHECK.due("if the other one is replaced " + i, x.risk(1), 255);
    }
  }

  private static void path(String when, RecipeScaler x, int allergen, int... due) {
    CHECK.due(when + ": length", x.path(allergen, -1), due.length);
    for (int k = 0; k < due.length; k++) {
      CHECK.due(when + ": " + k, x.path(allergen, k), due[k]);
    }
    CHECK.due(when + ": behind", x.path(allergen, due.length), RecipeScaler.NONE);
  }

  private static void paths() {
    CHECK.says("A path of an allergen is a sequence of recipes, each containing the next one, that "
        + "begins with that of the plan, and then an ingredient of the last one that contains the "
        + "allergen or has traces of it; substitutions do not matter.");
    RecipeScaler x = Check.planned("3:1ga,1g1=1g", "1:1gb,1g0=1g", "0:1gl=1g", "7:1gc=1g");
    x.allergens(2, 1, 1);
    CHECK.due("of another recipe", x.path(0, 0), -5);
    x.allergens(11, 1, 0);
    path("through three recipes", x, 0, 3, 1, 0, 111);
    x.scale(1, 1, 1);
    path("through two", x, 0, 1, 0, 111);
    x.scale(0, 1, 1);
    path("through one", x, 0, 0, 111);
    x.allergens(11, 0, 1);
    path("a trace", x, 0, 0, 111);
    x.substitute(11, 2, 1, 1, 0, 0);
    path("a substitution", x, 0, 0, 111);
    x.allergens(11, 0, 2);
    CHECK.due("no path by a substitution", x.path(0, 0), -5);
    CHECK.due("though there is a risk", x.risk(0), 1);
    RecipeScaler y = Check.planned("7:1g6=1g", "6:1g5=1g", "5:1g4=1g", "4:1g3=1g", "3:1g2=1g",
        "2:1g1=1g", "1:1g0=1g", "0:1gk=1g");
    y.allergens(10, 128, 0);
    path("through all", y, 7, 7, 6, 5, 4, 3, 2, 1, 0, 110);
    for (int i = 0; i < 12; i++) {
      RecipeScaler z = Check.planned("0:1g" + (char) ('a' + i) + "=1g");
      z.allergens(i, 2, 4);
      path("contained in " + i, z, 1, 0, 100 + i);
      path("a trace in " + i, z, 2, 0, 100 + i);
      CHECK.due("neither in " + i, z.path(3, 0), -5);
    }
  }

  private static void theFirstPath() {
    CHECK.says("Of all paths the first one is told: that which a walk through the items in their "
        + "order, into each recipe at once, meets first, be it contained or a trace;");
    RecipeScaler x = Check.planned("0:1ga,1g1,1gb,1g2=1g", "1:1gc,1g2=1g", "2:1gd=1g");
    x.allergens(3, 1, 0);
    path("into each recipe at once", x, 0, 0, 1, 2, 103);
    x.allergens(1, 1, 0);
    path("though there is a shorter one behind", x, 0, 0, 1, 2, 103);
    x.allergens(2, 0, 1);
    path("a trace ahead of what is contained", x, 0, 0, 1, 102);
    x.allergens(0, 1, 0);
    path("the first item", x, 0, 0, 100);
    x.allergens(0, 0, 0);
    x.allergens(2, 0, 0);
    Check.read(x, "1:1gc=1g");
    path("behind a recipe without", x, 0, 0, 101);
    x.allergens(1, 0, 0);
    path("the last item", x, 0, 0, 2, 103);
    Check.read(x, "0:1g1,1g1,1g2,1gd,1g2=1g");
    path("the first of several times", x, 0, 0, 2, 103);
    RecipeScaler y = Check.planned("0:1ga,1ga,1ga,1ga,1ga,1gl=1g");
    y.allergens(11, 1, 0);
    path("the sixth item", y, 0, 0, 111);
  }

  private static void reasonsDoNotMatter() {
    CHECK.says("the reasons 1 to 6 do not matter for it, and missing recipes contain nothing.");
    reasonDoesNotMatter(1, 1, 1, "0:1g7,1g1=1g", "1:1gl=1g");
    reasonDoesNotMatter(2, 1, 1, "0:1g1,1g0=1g", "1:1gl,1g0=1g");
    reasonDoesNotMatter(3, 1, 1, "0:1m1=1g", "1:1gl=1g");
    reasonDoesNotMatter(4, 1, 1, "0:1ma,1g1=1g", "1:1pl=1g");
    reasonDoesNotMatter(5, 7886, 1, "0:983g1=1g", "1:129ga,1gl=1g");
    // 301 items ahead of l: 6 times 43, 42, and one.
    RecipeScaler x = Check.with("2:1ga,1ga,1ga,1ga,1ga,1ga=1g", "1:1g2,1g2,1g2,1g2,1g2,1g2=1g",
        "3:1g1,1g1,1g1,1g1,1g1,1g1=1g", "0:1g3,1g1,1ga,1gl=1g");
    x.allergens(11, 1, 0);
    CHECK.due("too many items", x.scale(0, 1, 1), 0);
    CHECK.due("their reason", x.reason(), 6);
    path("reason 6", x, 0, 0, 111);
    x = Check.planned("0:1g7,1g1=1g", "1:1gl=1g", "7:1ga=1g");
    x.allergens(0, 1, 0);
    path("not missing", x, 0, 0, 7, 100);
    x.removeRecipe(7);
    CHECK.due("missing", x.path(0, 0), -5);
    CHECK.due("missing, and its length", x.path(0, -1), -5);
  }

  private static void reasonDoesNotMatter(int reason, int up, int down, String... texts) {
    RecipeScaler x = Check.with(texts);
    x.allergens(11, 1, 0);
    CHECK.due("not found", x.scale(0, up, down), 0);
    CHECK.due("the reason", x.reason(), reason);
    path("reason " + reason, x, 0, 0, 1, 111);
    RecipeScaler y = Check.planned("0:1g5=1g");
    y.path(0, 0);
    CHECK.due("path keeps no reason", y.reason(), 1);
  }

  private static void risk() {
    CHECK.says("Returns the allergens of the plan. - `isTrace`: 0 for those contained, 1 for traces");
    RecipeScaler x = Check.planned("0:1ga,1gb=1g");
    CHECK.due("none contained", x.risk(0), 0);
    CHECK.due("no traces", x.risk(1), 0);
    x.allergens(0, 3, 12);
    x.allergens(1, 5, 50);
    CHECK.due("contained", x.risk(0), 7);
    CHECK.due("traces", x.risk(1), 56);
    x.allergens(1, 255, 255);
    CHECK.due("all contained", x.risk(0), 255);
    CHECK.due("no traces then", x.risk(1), 0);
    x.allergens(0, 0, 0);
    x.allergens(1, 0, 255);
    CHECK.due("traces of all", x.risk(1), 255);

    CHECK.says("Returns the set; NONE if isTrace is invalid; STATE if there is no plan, or what is "
        + "needed cannot be found.");
    RecipeScaler none = Check.with("0:1g7=1g");
    for (int wrong : Check.NO_PARTS) {
      CHECK.due("risk " + wrong, x.risk(wrong), RecipeScaler.NONE);
      CHECK.due("NONE ahead of STATE", none.risk(wrong), RecipeScaler.NONE);
    }
    CHECK.due("no plan", none.risk(0), RecipeScaler.STATE);
    CHECK.due("no plan, traces", none.risk(1), RecipeScaler.STATE);
    none.scale(0, 1, 1);
    CHECK.due("not found", none.risk(0), RecipeScaler.STATE);
    CHECK.due("not found, traces", none.risk(1), RecipeScaler.STATE);
    CHECK.due("risk is no change", none.count(4), 2);
  }

  private static void path() {
    CHECK.says("Returns a part of the first path of an allergen for the recipe of the plan. "
        + "- `allergen`: the allergen, 0 to 7");
    for (int allergen = 0; allergen < 8; allergen++) {
      RecipeScaler x = Check.planned("4:1gi,1gj=1g");
      x.allergens(8, 255 - (1 << allergen), 0);
      x.allergens(9, 0, 1 << allergen);
      for (int other = 0; other < 8; other++) {
        path("allergen " + other, x, other, 4, other == allergen ? 109 : 108);
      }
    }

    CHECK.says("- `k`: the position in the path, from 0; the recipes are told by their numbers, the "
        + "ingredient at the end by 100 plus its number; -1 for the length");
    RecipeScaler x = Check.planned("5:1g2=1g", "2:1g7=1g", "7:1ga,1gl=1g");
    x.allergens(11, 1, 0);
    x.allergens(0, 2, 0);
    CHECK.due("length", x.path(0, -1), 4);
    CHECK.due("recipe of the plan", x.path(0, 0), 5);
    CHECK.due("the next one", x.path(0, 1), 2);
    CHECK.due("the last one", x.path(0, 2), 7);
    CHECK.due("ingredient 11", x.path(0, 3), 111);
    CHECK.due("ingredient 0", x.path(1, 3), 100);
  }

  private static void pathErrors() {
    CHECK.says("Returns the part or the length; NONE if there is no such allergen, or there is a "
        + "path and no such position; STATE if there is no plan, its recipe is missing,");
    RecipeScaler x = Check.with("5:1gl=1g");
    x.allergens(11, 1, 0);
    for (int wrong : new int[] {-1, 8, 31, 32, Integer.MIN_VALUE, Integer.MAX_VALUE}) {
      CHECK.due("allergen " + wrong + ", no plan", x.path(wrong, 0), RecipeScaler.NONE);
    }
    for (int k : new int[] {-2, -1, 0, 1, 2, Integer.MIN_VALUE, Integer.MAX_VALUE}) {
      CHECK.due("no plan, k " + k, x.path(0, k), RecipeScaler.STATE);
    }
    x.scale(5, 1, 1);
    for (int wrong : new int[] {-1, 8, 31, 32, Integer.MIN_VALUE, Integer.MAX_VALUE}) {
      CHECK.due("allergen " + wrong, x.path(wrong, 0), RecipeScaler.NONE);
    }
    for (int k : new int[] {-2, 2, 3, 8, 9, Integer.MIN_VALUE, Integer.MAX_VALUE}) {
      CHECK.due("k " + k, x.path(0, k), RecipeScaler.NONE);
    }
    // A longer path was asked for before: its parts are not told again.
    Check.read(x, "6:1g5=1g");
    x.scale(6, 1, 1);
    path("of two", x, 0, 6, 5, 111);
    x.scale(5, 1, 1);
    path("of one", x, 0, 5, 111);
    x.removeRecipe(5);
    for (int k : new int[] {-2, -1, 0, 1, 2}) {
      CHECK.due("the recipe is missing, k " + k, x.path(0, k), RecipeScaler.STATE);
    }
    CHECK.due("allergen 8, the recipe is missing", x.path(8, 0), RecipeScaler.NONE);
    CHECK.due("path is no change", x.count(4), 7);
    CHECK.due("path keeps no reason", x.reason(), -5);
  }

  private static void loops() {
    CHECK.says("or a recipe is met while its own items are gone through before the path is found, "
        + "though there may be one later;");
    RecipeScaler x = Check.planned("0:1g1,1ga=1g", "1:1gb,1g0=1g");
    x.allergens(0, 1, 0);
    for (int k : new int[] {-2, -1, 0, 1, 99}) {
      CHECK.due("a path later, k " + k, x.path(0, k), RecipeScaler.STATE);
      CHECK.due("none later, k " + k, x.path(7, k), RecipeScaler.STATE);
    }
    x.allergens(1, 1, 0);
    path("the path is found before", x, 0, 0, 1, 101);
    Check.read(x, "0:1ga,1g1=1g");
    path("the path is found before", x, 0, 0, 100);
    CHECK.due("that of another is not", x.path(1, 0), RecipeScaler.STATE);
    Check.read(x, "0:1g0,1ga=1g");
    CHECK.due("itself directly", x.path(0, 0), RecipeScaler.STATE);
    Check.read(x, "0:1g1,1ga=1g");
    Check.read(x, "1:1g2,1gb=1g");
    Check.read(x, "2:1g1=1g");
    CHECK.due("a loop that the plan's recipe is not in", x.path(0, 0), RecipeScaler.STATE);
    RecipeScaler y = Check.planned("7:1g6=1g", "6:1g5=1g", "5:1g4=1g", "4:1g3=1g", "3:1g2=1g",
        "2:1g1=1g", "1:1g0=1g", "0:1g7,1ga=1g");
    y.allergens(0, 1, 0);
    CHECK.due("a loop of eight", y.path(0, 0), RecipeScaler.STATE);
    Check.read(y, "0:1ga,1g7=1g");
    path("the path is found before", y, 0, 7, 6, 5, 4, 3, 2, 1, 0, 100);
    // Met again, but not while its own items are gone through.
    Check.read(x, "0:1g1,1g1,1g2,1ga=1g");
    Check.read(x, "1:1gd=1g");
    Check.read(x, "2:1g1,1g1=1g");
    path("met again", x, 0, 0, 100);
  }

  private static void noPath() {
    CHECK.says("-5, whatever k is, if there is no path.");
    RecipeScaler x = Check.planned("0:1ga,1g1=1g", "1:1gb,1g7=1g");
    x.allergens(2, 255, 255);
    for (int k : new int[] {-2, -1, 0, 1, 2, 9, 100, Integer.MIN_VALUE, Integer.MAX_VALUE}) {
      CHECK.due("k " + k, x.path(0, k), -5);
    }
    for (int allergen : new int[] {-1, 8}) {
      CHECK.due("NONE ahead of -5", x.path(allergen, 0), RecipeScaler.NONE);
    }
  }
}
