/** The words on substitutions, and on promises 11, 12 and 20. */
public final class SubstitutionBoundsTest {
  private static final Check CHECK = new Check("SubstitutionBoundsTest");
  private static final int[] NO_RATIOS = {0, -1, 1000, Integer.MIN_VALUE, Integer.MAX_VALUE};

  public static void main(String[] args) {
    numbers();
    ratio();
    allergenConditions();
    numberConditions();
    stockConditions();
    inTheirOrder();
    whatIsTaken();
    tooGreat();
    substitute();
    substituteErrors();
    removeSubstitution();
    applied();
    CHECK.end();
  }

  /** A plan that needs so many grams of a, with one substitution of a by b, gram for gram. */
  private static RecipeScaler replacing(int up, int down, int kind, int v) {
    RecipeScaler x = Check.with("0:1ga=1g");
    x.scale(0, up, down);
    x.substitute(0, 1, 1, 1, kind, v);
    return x;
  }

  private static void numbers() {
    CHECK.says("There are at most 6 substitutions, numbered from 0 in the order in which they were "
        + "added.");
    RecipeScaler x = Check.planned("0:1ga,2gb,3gc,4gd,5ge,6gf=1g");
    for (int i = 0; i < 6; i++) {
      CHECK.due("there is no such one yet " + i, x.applied(i, 0), RecipeScaler.NO);
      CHECK.due("number", x.substitute(i, 11, 1, 1, 0, 0), i);
      CHECK.due("count", x.count(2), i + 1);
    }
    CHECK.due("a seventh", x.substitute(6, 11, 1, 1, 0, 0), RecipeScaler.FULL);
    CHECK.due("count", x.count(2), 6);
    for (int i = 0; i < 6; i++) {
      CHECK.due("substitution " + i, Check.applied(x, i), "1 " + (i + 1) + "/1");
    }
    CHECK.due("no number 6", x.applied(6, 0), RecipeScaler.NO);
    CHECK.due("by all six", Check.needed(x, 11, 1), "21/1");
  }

  private static void ratio() {
    CHECK.says("A substitution has an ingredient x that is replaced by another one y, a ratio, the "
        + "grams of y for a gram of x, and a condition:");
    RecipeScaler x = Check.planned("0:5ga,7gl=1g");
    x.substitute(0, 11, 6, 4, 0, 0);
    CHECK.due("nothing of x", Check.needed(x, 0, 1), "0/1");
    CHECK.due("3/2 of y for each gram", Check.needed(x, 11, 1), "29/2");
    x.removeSubstitution(0);
    x.substitute(11, 0, 1, 14, 0, 0);
    CHECK.due("nothing of the last one", Check.needed(x, 11, 1), "0/1");
    CHECK.due("1/14 for each gram", Check.needed(x, 0, 1), "11/2");

    CHECK.says("kind 0, always;");
    CHECK.due("of 1/9999", Check.applied(replacing(1, 9999, 0, 0), 0), "1 1/9999");
    CHECK.due("of 9999", Check.applied(replacing(9999, 1, 0, 0), 0), "1 9999/1");
    x = Check.planned("0:1gc=1g");
    x.substitute(0, 1, 1, 1, 0, 0);
    CHECK.due("of nothing", Check.applied(x, 0), "1 0/1");
    x.stock(0, 999999);
    CHECK.due("the stock does not matter", Check.applied(x, 0), "1 0/1");
  }

  private static void allergenConditions() {
    CHECK.says("kind 1 with an allergen: if x contains it or has traces of it;");
    for (int allergen = 0; allergen < 8; allergen++) {
      RecipeScaler x = replacing(5, 2, 1, allergen);
      String of = " of allergen " + allergen;
      CHECK.due("neither" + of, Check.applied(x, 0), "0 0/1");
      x.allergens(0, 1 << allergen, 0);
      CHECK.due("contained" + of, Check.applied(x, 0), "1 5/2");
      x.allergens(0, 0, 1 << allergen);
      CHECK.due("traces" + of, Check.applied(x, 0), "1 5/2");
      x.allergens(0, 1 << allergen, 1 << allergen);
      CHECK.due("both" + of, Check.applied(x, 0), "1 5/2");
      x.allergens(0, 255 - (1 << allergen), 255 - (1 << allergen));
      CHECK.due("all others" + of, Check.applied(x, 0), "0 0/1");
      x.allergens(1, 255, 255);
      CHECK.due("y's do not matter" + of, Check.applied(x, 0), "0 0/1");
    }
  }

  private static void numberConditions() {
    CHECK.says("kind 2 with a number: if more than so many grams of x are needed;");
    CHECK.due("1 is not more than 1", Check.applied(replacing(1, 1, 2, 1), 0), "0 0/1");
    CHECK.due("9999/9998 is", Check.applied(replacing(9999, 9998, 2, 1), 0), "1 9999/9998");
    CHECK.due("9998/9999 is not", Check.applied(replacing(9998, 9999, 2, 1), 0), "0 0/1");
    CHECK.due("2 is", Check.applied(replacing(2, 1, 2, 1), 0), "1 2/1");
    CHECK.due("1/9999 is more than 0", Check.applied(replacing(1, 9999, 2, 0), 0), "1 1/9999");
    RecipeScaler x = Check.planned("0:1gc=1g");
    x.substitute(0, 1, 1, 1, 2, 0);
    CHECK.due("0 is not more than 0", Check.applied(x, 0), "0 0/1");
    // 999 times 1001, of which 999 are in an item and 1001 in the factor, is 999999.
    x = Check.with("0:999ga=1g");
    x.substitute(0, 1, 1, 1, 2, 999999);
    x.scale(0, 1001, 1);
    CHECK.due("999999 is not more than 999999", Check.applied(x, 0), "0 0/1");
    Check.read(x, "0:999ga,1/999ga=1g");
    CHECK.due("a little more is", x.applied(0, 0), 1);
    x.stock(0, 999999);
    CHECK.due("the stock does not matter", x.applied(0, 0), 1);
  }

  private static void stockConditions() {
    CHECK.says("kind 3: if more grams of x are needed than are in stock.");
    RecipeScaler x = replacing(5, 2, 3, 0);
    CHECK.due("nothing in stock", Check.applied(x, 0), "1 5/2");
    x.stock(0, 1);
    CHECK.due("1 in stock", Check.applied(x, 0), "1 3/2");
    x.stock(0, 2);
    CHECK.due("2 in stock", Check.applied(x, 0), "1 1/2");
    x.stock(0, 3);
    CHECK.due("3 in stock", Check.applied(x, 0), "0 0/1");
    x.stock(0, 999999);
    CHECK.due("999999 in stock", Check.applied(x, 0), "0 0/1");
    x.scale(0, 3, 1);
    x.stock(0, 3);
    CHECK.due("3 of 3", Check.applied(x, 0), "0 0/1");
    x.stock(0, 2);
    x.stock(1, 999999);
    CHECK.due("3 of 2, y's stock does not matter", Check.applied(x, 0), "1 1/1");
    x = Check.planned("0:1gc=1g");
    x.substitute(0, 1, 1, 1, 3, 0);
    CHECK.due("0 is not more than 0", Check.applied(x, 0), "0 0/1");
    x = Check.with("0:999ga,1/999ga=1g");
    x.substitute(0, 1, 1, 1, 3, 0);
    x.scale(0, 1001, 1);
    x.stock(0, 999999);
    CHECK.due("a little more than 999999", Check.applied(x, 0), "1 1001/999");
    CHECK.due("leaves the stock", Check.needed(x, 0, 1), "999999/1");
  }

  private static void inTheirOrder() {
    CHECK.says("When what is needed for a plan was found, the substitutions are gone through in "
        + "their order: if the condition holds at that time, behind the earlier ones, also if "
        + "nothing of x is needed with the kinds 0 and 1,");
    // 5 of a and 3 of b: a becomes b, which is 8 then; b becomes c only if it is more than 7.
    RecipeScaler x = Check.planned("0:5ga,3gb=1g");
    x.substitute(1, 2, 1, 1, 2, 7);
    x.substitute(0, 1, 1, 1, 0, 0);
    CHECK.due("3 of b are not more than 7", Check.applied(x, 0), "0 0/1");
    x.substitute(1, 2, 1, 1, 2, 7);
    CHECK.due("8 of b are, behind", Check.applied(x, 2), "1 8/1");
    CHECK.due("those ahead are as before", Check.applied(x, 0), "0 0/1");
    CHECK.due("c", Check.needed(x, 2, 1), "8/1");
    x.substitute(1, 3, 1, 1, 2, 0);
    CHECK.due("nothing of b is left for kind 2", Check.applied(x, 3), "0 0/1");
    x.substitute(1, 3, 1, 1, 3, 0);
    CHECK.due("nor for kind 3", Check.applied(x, 4), "0 0/1");
    x.substitute(1, 3, 1, 1, 0, 0);
    CHECK.due("kind 0 holds also for nothing", Check.applied(x, 5), "1 0/1");
    x.removeSubstitution(5);
    x.allergens(1, 1, 0);
    x.substitute(1, 3, 1, 1, 1, 0);
    CHECK.due("kind 1 does, too", Check.applied(x, 5), "1 0/1");
    CHECK.due("nothing becomes nothing", Check.needed(x, 3, 1), "0/1");
    // There and back, and there again.
    RecipeScaler y = Check.planned("0:4ga=1g");
    y.substitute(0, 1, 1, 2, 0, 0);
    y.substitute(1, 0, 3, 1, 0, 0);
    y.substitute(0, 1, 1, 1, 2, 5);
    CHECK.due("4", Check.applied(y, 0), "1 4/1");
    CHECK.due("2", Check.applied(y, 1), "1 2/1");
    CHECK.due("6", Check.applied(y, 2), "1 6/1");
    CHECK.due("a", Check.needed(y, 0, 1), "0/1");
    CHECK.due("b", Check.needed(y, 1, 1), "6/1");
    CHECK.due("a before", Check.needed(y, 0, 0), "4/1");
  }

  private static void whatIsTaken() {
    CHECK.says("all of x, or with kind 3 what is above the stock, is taken away, and this times the "
        + "ratio is added to y.");
    for (int kind = 0; kind < 4; kind++) {
      RecipeScaler x = Check.planned("0:15/2ga,1/3gb=1g");
      x.allergens(0, 1, 0);
      x.stock(0, 2);
      x.substitute(0, 1, 2, 3, kind, 0);
      String of = "kind " + kind + ": ";
      CHECK.due(of + "taken", Check.applied(x, 0), kind == 3 ? "1 11/2" : "1 15/2");
      CHECK.due(of + "what is left", Check.needed(x, 0, 1), kind == 3 ? "2/1" : "0/1");
      CHECK.due(of + "of y", Check.needed(x, 1, 1), kind == 3 ? "4/1" : "16/3");
      CHECK.due(of + "of x before", Check.needed(x, 0, 0), "15/2");
      CHECK.due(of + "of y before", Check.needed(x, 1, 0), "1/3");
      CHECK.due(of + "of another", Check.needed(x, 2, 1), "0/1");
    }

    CHECK.says("If the condition does not hold, nothing is taken away.");
    for (int kind = 1; kind < 4; kind++) {
      RecipeScaler x = Check.planned("0:5ga,1gb=1g");
      x.stock(0, 5);
      x.substitute(0, 1, 1, 1, kind, kind == 2 ? 5 : 0);
      CHECK.due("not applied, kind " + kind, Check.applied(x, 0), "0 0/1");
      CHECK.due("x stays, kind " + kind, Check.needed(x, 0, 1), "5/1");
      CHECK.due("y stays, kind " + kind, Check.needed(x, 1, 1), "1/1");
    }
  }

  private static void tooGreat() {
    CHECK.says("Reason 5 applies here, too.");
    // 983 times 7886 times 129 is 2 above 10^9, and times 128 below.
    RecipeScaler x = Check.with("0:983ga=1g", "1:1/983ga=1g");
    for (int ratio = 128; ratio <= 129; ratio++) {
      x.substitute(0, 1, ratio, 1, 0, 0);
      CHECK.due("times " + ratio, x.scale(0, 7886, 1), ratio == 128 ? 1 : 0);
      CHECK.due("its reason", x.reason(), ratio == 128 ? -5 : 5);
      x.removeSubstitution(0);
      x.substitute(0, 1, 1, ratio, 0, 0);
      CHECK.due("times 1/" + ratio, x.scale(1, 1, 7886), ratio == 128 ? 1 : 0);
      x.removeSubstitution(0);
    }
    x.substitute(0, 1, 129, 1, 2, 983 * 999);
    CHECK.due("where the condition holds", x.scale(0, 1000, 1), 1);
    CHECK.due("and where it does not", x.scale(0, 999, 1), 1);
    x.substitute(1, 0, 129, 1, 0, 0);
    CHECK.due("too great only where it holds", x.scale(0, 1000, 1), 0);
    CHECK.due("where it does not", x.scale(0, 999, 1), 1);
    // What is added: 10^9 and 10, and denominators of 997 times 991 times 983 and 977.
    RecipeScaler y = Check.with("0:500g1,1/500gc=1g", "1:400gb=1g",
        "2:1/997gb,1/991gb,1/983gb,1/977gc=1g");
    y.substitute(2, 3, 1, 1, 0, 0);
    CHECK.due("10^9 and 10 apart", y.scale(0, 5000, 1), 1);
    CHECK.due("the denominators apart", y.scale(2, 1, 1), 1);
    y.removeSubstitution(0);
    y.substitute(2, 1, 1, 1, 0, 0);
    CHECK.due("the denominators together", y.scale(2, 1, 1), 0);
    CHECK.due("10^9 and 10 together", y.scale(0, 5000, 1), 0);
    CHECK.due("its reason", y.reason(), 5);
    CHECK.due("needed of another, before", Check.needed(y, 5, 0), "NO");
    y.removeSubstitution(0);
    y.substitute(2, 3, 1, 1, 0, 0);
    y.substitute(3, 1, 1, 1, 0, 0);
    CHECK.due("by the second one", y.scale(0, 5000, 1), 0);
    CHECK.due("the first one cannot be told either", Check.applied(y, 0), "NO");
  }

  private static void substitute() {
    CHECK.says("Adds a substitution. - `x`: the ingredient that is replaced - `y`: the other one");
    for (int i = 0; i < 12; i++) {
      int other = (i + 1) % 12;
      RecipeScaler x = Check.planned("0:5g" + (char) ('a' + i) + "=1g");
      CHECK.due("of " + i, x.substitute(i, other, 3, 1, 0, 0), 0);
      CHECK.due("what is left of " + i, Check.needed(x, i, 1), "0/1");
      CHECK.due("what is needed of " + other, Check.needed(x, other, 1), "15/1");
    }

    CHECK.says("- `up`: the numerator of the ratio, 1 to 999");
    ratio(1, 2, "5/2");
    ratio(999, 1, "4995/1");

    CHECK.says("- `down`: the denominator of the ratio, 1 to 999");
    ratio(2, 1, "10/1");
    ratio(1, 999, "5/999");
    ratio(999, 999, "5/1");

    CHECK.says("- `kind`: the kind of the condition, 0 to 3");
    RecipeScaler x = new RecipeScaler();
    for (int kind = 0; kind < 4; kind++) {
      CHECK.due("kind " + kind, x.substitute(0, 1, 1, 1, kind, 0), kind);
    }
    CHECK.due("kind 4", x.substitute(0, 1, 1, 1, 4, 0), RecipeScaler.NONE);

    CHECK.says("- `v`: the allergen, 0 to 7, for kind 1; the number of grams, 0 to 999999, "
        + "for kind 2; otherwise 0");
    int[][] values = {{0, 0}, {1, 0}, {1, 7}, {2, 0}, {2, 8}, {2, 999999}, {3, 0}};
    for (int[] row : values) {
      CHECK.due("kind " + row[0] + " with " + row[1],
          new RecipeScaler().substitute(0, 1, 1, 1, row[0], row[1]), 0);
    }
    int[][] wrong = {{0, 1}, {0, -1}, {1, -1}, {1, 8}, {2, -1}, {2, 1000000}, {3, 1}, {3, -1}};
    for (int[] row : wrong) {
      CHECK.due("kind " + row[0] + " with " + row[1],
          new RecipeScaler().substitute(0, 1, 1, 1, row[0], row[1]), RecipeScaler.BAD);
    }
    for (int kind = 0; kind < 4; kind++) {
      for (int v : new int[] {Integer.MIN_VALUE, Integer.MAX_VALUE}) {
        CHECK.due("kind " + kind + " with " + v,
            new RecipeScaler().substitute(0, 1, 1, 1, kind, v), RecipeScaler.BAD);
      }
    }
  }

  private static void ratio(int up, int down, String due) {
    RecipeScaler x = Check.planned("0:5ga=1g");
    CHECK.due("ratio " + up + "/" + down, x.substitute(0, 1, up, down, 0, 0), 0);
    CHECK.due("by ratio " + up + "/" + down, Check.needed(x, 1, 1), due);
  }

  private static void substituteErrors() {
    CHECK.says("Returns the number of the substitution; NONE if there is no such ingredient or "
        + "kind; BAD if x is y, or another argument is out of range; "
        + "FULL if there are 6 substitutions.");
    RecipeScaler x = new RecipeScaler();
    for (int count = 0; count <= 6; count++) {
      for (int i : Check.NO_INGREDIENTS) {
        CHECK.due("x " + i, x.substitute(i, 1, 1, 1, 0, 0), RecipeScaler.NONE);
        CHECK.due("y " + i, x.substitute(1, i, 1, 1, 0, 0), RecipeScaler.NONE);
        CHECK.due("NONE ahead of BAD", x.substitute(i, i, 0, 0, 0, -1), RecipeScaler.NONE);
      }
      for (int kind : new int[] {-1, 4, Integer.MIN_VALUE, Integer.MAX_VALUE}) {
        CHECK.due("kind " + kind, x.substitute(0, 1, 1, 1, kind, 0), RecipeScaler.NONE);
        CHECK.due("NONE ahead of BAD", x.substitute(0, 0, 0, 0, kind, -1), RecipeScaler.NONE);
      }
      CHECK.due("x is y", x.substitute(11, 11, 1, 1, 0, 0), RecipeScaler.BAD);
      for (int part : NO_RATIOS) {
        CHECK.due("up " + part, x.substitute(0, 1, part, 1, 0, 0), RecipeScaler.BAD);
        CHECK.due("down " + part, x.substitute(0, 1, 1, part, 0, 0), RecipeScaler.BAD);
      }
      CHECK.due("v", x.substitute(0, 1, 1, 1, 0, 1), RecipeScaler.BAD);
      CHECK.due("none is added by these", x.count(2), count);
      CHECK.due("nor are they changes", x.count(4), count);
      CHECK.due("behind " + count, x.substitute(0, 1, 1, 1, 0, 0),
          count < 6 ? count : RecipeScaler.FULL);
    }
    CHECK.due("FULL is no change", x.count(4), 6);
    x.removeSubstitution(0);
    CHECK.due("there is room again", x.substitute(0, 1, 1, 1, 0, 0), 5);
  }

  private static void removeSubstitution() {
    CHECK.says("Removes a substitution; those behind it get lower numbers. "
        + "- `substitution`: the substitution");
    for (int removed = 0; removed < 6; removed++) {
      RecipeScaler x = Check.planned("0:1ga,2gb,3gc,4gd,5ge,6gf=1g");
      for (int i = 0; i < 6; i++) {
        x.substitute(i, 11, 1, 1, 0, 0);
      }
      CHECK.due("without " + removed, x.removeSubstitution(removed), 5);
      for (int i = 0; i < 5; i++) {
        int grams = i < removed ? i + 1 : i + 2;
        CHECK.due(i + " without " + removed, Check.applied(x, i), "1 " + grams + "/1");
      }
      CHECK.due("no number 5", x.applied(5, 0), RecipeScaler.NO);
      CHECK.due("needed without " + removed, Check.needed(x, 11, 1), 20 - removed + "/1");
      CHECK.due("a new one is the last", x.substitute(11, 10, 1, 1, 0, 0), 5);
    }

    CHECK.says("Returns the number of substitutions that remain; NONE if there is no such one.");
    RecipeScaler x = new RecipeScaler();
    CHECK.due("none yet", x.removeSubstitution(0), RecipeScaler.NONE);
    for (int i = 0; i < 6; i++) {
      x.substitute(i, 11, 1, 1, 0, 0);
    }
    for (int count = 6; count >= 0; count--) {
      for (int i : new int[] {-1, count, 6, 7, Integer.MIN_VALUE, Integer.MAX_VALUE}) {
        CHECK.due("remove " + i + " of " + count, x.removeSubstitution(i), RecipeScaler.NONE);
      }
      CHECK.due("none is removed", x.count(2), count);
      if (count > 0) {
        CHECK.due("the last of " + count, x.removeSubstitution(count - 1), count - 1);
      }
    }
  }

  private static void applied() {
    CHECK.says("Returns whether a substitution applies to the plan. "
        + "- `substitution`: the substitution - `part`: "
        + "0 for 1 if its condition holds at its time, otherwise 0;");
    RecipeScaler x = Check.planned("0:7/2ga,2gb=1g");
    x.substitute(0, 1, 1, 1, 2, 3);
    x.substitute(0, 1, 1, 1, 2, 0);
    x.substitute(1, 2, 1, 1, 3, 0);
    CHECK.due("holds", x.applied(0, 0), 1);
    CHECK.due("held at the time of the first one", x.applied(1, 0), 0);
    CHECK.due("holds behind the first one", x.applied(2, 0), 1);
    x.scale(0, 1, 2);
    CHECK.due("does not hold", x.applied(0, 0), 0);
    CHECK.due("holds at its time then", x.applied(1, 0), 1);
    x.scale(0, 1, 1);

    CHECK.says("1 and 2 for the numerator and denominator of what it takes away, in grams");
    CHECK.due("numerator", x.applied(0, 1), 7);
    CHECK.due("denominator", x.applied(0, 2), 2);
    CHECK.due("nothing", x.applied(1, 1), 0);
    CHECK.due("nothing, denominator", x.applied(1, 2), 1);
    CHECK.due("in grams of x, not of y", x.applied(2, 1) * 10 + x.applied(2, 2), 112);

    CHECK.says("Returns the number; NO if there is no such substitution, part is invalid, there is "
        + "no plan, or what is needed cannot be found.");
    for (int i : new int[] {-1, 3, 5, 6, Integer.MIN_VALUE, Integer.MAX_VALUE}) {
      CHECK.due("applied " + i, x.applied(i, 0), RecipeScaler.NO);
    }
    for (int part : new int[] {-1, 3, Integer.MIN_VALUE, Integer.MAX_VALUE}) {
      CHECK.due("part " + part, x.applied(0, part), RecipeScaler.NO);
    }
    CHECK.due("applied is no change", x.count(4), 7);
    x.removeRecipe(0);
    CHECK.due("not found", Check.applied(x, 0), "NO");
    RecipeScaler y = new RecipeScaler();
    y.substitute(0, 1, 1, 1, 0, 0);
    CHECK.due("no plan", Check.applied(y, 0), "NO");
  }
}
