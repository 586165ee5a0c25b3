/** Promises 23 and 24: the allergens of a plan, and their paths. */
public final class AllergenTest {
  private static final Check CHECK = new Check("AllergenTest");

  public static void main(String[] args) {
    risk();
    riskNot();
    path();
    pathIsTheFirst();
    pathAndLoops();
    pathAndReasons();
    pathThroughAll();
    pathNot();
    CHECK.end();
  }

  private static void risks(String when, RecipeScaler x, int contained, int traces) {
    CHECK.due(when + ": contained", x.risk(0), contained);
    CHECK.due(when + ": traces", x.risk(1), traces);
  }

  private static void risk() {
    RecipeScaler x = Check.with("0:1ga,1mb,1g1=1g", "1:1gc=1g");
    x.density(1, 1, 1);
    x.scale(0, 1, 1);
    risks("none", x, 0, 0);
    x.allergens(0, 1, 6);
    risks("of one", x, 1, 6);
    x.allergens(1, 2, 128);
    risks("what is contained is no trace", x, 3, 132);
    x.allergens(2, 4, 1);
    risks("of an inner recipe", x, 7, 128);
    x.allergens(3, 255, 255);
    risks("not of what is not needed", x, 7, 128);
    x.density(1, 0, 1);
    risks("not of what 0 is needed", x, 5, 2);
    x.substitute(0, 4, 1, 1, 0, 0);
    risks("not of what is replaced", x, 4, 1);
    x.allergens(4, 64, 32);
    risks("but of what replaces it", x, 68, 33);
    CHECK.due("risk is no change", x.back(), 7);
  }

  private static void riskNot() {
    RecipeScaler x = Check.with("0:1g7=1g");
    CHECK.due("no plan", x.risk(0), RecipeScaler.STATE);
    for (int wrong : new int[] {-1, 2, Integer.MIN_VALUE, Integer.MAX_VALUE}) {
      CHECK.due("risk " + wrong, x.risk(wrong), RecipeScaler.NONE);
    }
    x.scale(0, 1, 1);
    CHECK.due("not found", x.risk(1), RecipeScaler.STATE);
  }

  private static void path(String when, RecipeScaler x, int allergen, int... due) {
    CHECK.due(when + ": length", x.path(allergen, -1), due.length);
    for (int k = 0; k < due.length; k++) {
      CHECK.due(when + ": " + k, x.path(allergen, k), due[k]);
    }
    for (int k : new int[] {-2, due.length, 9, 10, Integer.MIN_VALUE, Integer.MAX_VALUE}) {
      CHECK.due(when + ": " + k, x.path(allergen, k), RecipeScaler.NONE);
    }
  }

  private static void path() {
    RecipeScaler x = Check.with("3:1ga,1g1=1g", "1:1gb,1g0=1g", "0:1gl=1g");
    x.scale(3, 1, 1);
    x.allergens(11, 1, 0);
    path("through three", x, 0, 3, 1, 0, 111);
    x.allergens(1, 0, 1);
    path("a trace", x, 0, 3, 1, 101);
    x.allergens(0, 1, 1);
    path("at once", x, 0, 3, 100);
    x.allergens(0, 2, 128);
    path("another allergen", x, 7, 3, 100);
    path("the first again", x, 0, 3, 1, 101);
    x.scale(1, 1, 1);
    path("of another plan", x, 0, 1, 101);
    CHECK.due("path is no change", x.back(), 7);
  }

  private static void pathIsTheFirst() {
    RecipeScaler x = Check.with("0:1ga,1g1,1gb,1g2=1g", "1:1gc,1g2=1g", "2:1gd=1g");
    x.scale(0, 1, 1);
    x.allergens(3, 0, 1);
    path("a recipe is gone into at once", x, 0, 0, 1, 2, 103);
    x.allergens(1, 1, 0);
    path("be it contained or a trace", x, 0, 0, 1, 2, 103);
    Check.read(x, "1:1gc=1g");
    path("in the order of the items", x, 0, 0, 101);
    x.allergens(1, 0, 0);
    path("behind a recipe without", x, 0, 0, 2, 103);
  }

  private static void pathAndLoops() {
    RecipeScaler x = Check.with("0:1g1,1ga=1g", "1:1gb,1g0=1g");
    x.scale(0, 1, 1);
    x.allergens(0, 1, 0);
    CHECK.due("a loop ahead of the path", x.path(0, 0), RecipeScaler.STATE);
    CHECK.due("its length", x.path(0, -1), RecipeScaler.STATE);
    CHECK.due("a wrong position", x.path(0, 99), RecipeScaler.STATE);
    CHECK.due("a loop and no path", x.path(7, 0), RecipeScaler.STATE);
    x.allergens(1, 1, 0);
    path("a loop behind the path", x, 0, 0, 1, 101);
    Check.read(x, "0:1ga,1g1=1g");
    path("a loop behind the path", x, 0, 0, 100);
    Check.read(x, "1:1g1=1g");
    CHECK.due("a recipe with itself", x.path(3, 0), RecipeScaler.STATE);
    // 1 is met twice, but not while its own items are gone through.
    Check.read(x, "0:1g1,1g1,1g2=1g");
    Check.read(x, "1:1gd=1g");
    Check.read(x, "2:1g1,1ge=1g");
    x.allergens(4, 0, 64);
    path("met again is no loop", x, 6, 0, 2, 104);
    CHECK.due("no path", x.path(5, 0), -5);
  }

  private static void pathAndReasons() {
    RecipeScaler x = Check.with("0:1g7,1m1,1mc=1g", "1:1pb=1p");
    x.scale(0, 1, 1);
    int reason = x.reason();
    x.allergens(1, 4, 0);
    path("missing recipes, units, densities", x, 2, 0, 1, 101);
    x.substitute(1, 5, 1, 1, 0, 0);
    path("substitutions", x, 2, 0, 1, 101);
    x.allergens(5, 8, 0);
    CHECK.due("no path by a substitution", x.path(3, 0), -5);
    CHECK.due("no path of a missing recipe", x.path(0, -1), -5);
    x.density(2, 0, 1);
    x.allergens(2, 16, 0);
    path("of what 0 is needed", x, 4, 0, 102);
    CHECK.due("path keeps no reason", x.reason(), reason);
    x.removeRecipe(1);
    CHECK.due("a removed recipe", x.path(2, 0), -5);
  }

  private static void pathThroughAll() {
    RecipeScaler x = Check.with("7:1g6=1g", "6:1g5,1g5,1g5,1g5,1g5,1g5=1g",
        "5:1g4,1g4,1g4,1g4,1g4,1g4=1g", "4:1g3,1g3,1g3,1g3,1g3,1g3=1g",
        "3:1g2,1g2,1g2,1g2,1g2,1g2=1g", "2:1g1,1g1,1g1,1g1,1g1,1g1=1g",
        "1:1g0,1g0,1g0,1g0,1g0,1g0=1g", "0:1ga,1ga,1ga,1ga,1ga,1gl=1g");
    x.scale(7, 1, 1);
    CHECK.due("none", x.path(0, 0), -5);
    x.allergens(11, 1, 0);
    path("through all", x, 0, 7, 6, 5, 4, 3, 2, 1, 0, 111);
    Check.read(x, "0:1ga,1g7=1g");
    CHECK.due("a loop through all", x.path(0, 0), RecipeScaler.STATE);
  }

  private static void pathNot() {
    RecipeScaler x = Check.with("0:1ga=1g");
    for (int wrong : new int[] {-1, 8, Integer.MIN_VALUE, Integer.MAX_VALUE}) {
      CHECK.due("path of " + wrong, x.path(wrong, 0), RecipeScaler.NONE);
    }
    CHECK.due("no plan", x.path(0, 0), RecipeScaler.STATE);
    CHECK.due("no plan, a wrong position", x.path(0, -2), RecipeScaler.STATE);
    x.scale(0, 1, 1);
    for (int k : new int[] {-2, -1, 0, 9, Integer.MIN_VALUE, Integer.MAX_VALUE}) {
      CHECK.due("no path, k " + k, x.path(0, k), -5);
    }
    x.removeRecipe(0);
    CHECK.due("the plan's recipe is missing", x.path(0, 0), RecipeScaler.STATE);
    CHECK.due("no reason is kept", x.reason(), -5);
  }
}
