/** Promises 5 to 12: the ingredients, their packs, and the list of substitutions. */
public final class IngredientTest {
  private static final Check CHECK = new Check("IngredientTest");

  public static void main(String[] args) {
    density();
    weight();
    allergens();
    stock();
    pack();
    removePack();
    substitute();
    substituteWrong();
    removeSubstitution();
    eachLeavesTheOthers();
    CHECK.end();
  }

  private static void density() {
    RecipeScaler x = Check.with("0:3ma,1pa=1g");
    x.weight(0, 0, 1);
    x.scale(0, 1, 1);
    CHECK.due("unknown at first", x.needed(0, 0, 0), RecipeScaler.NO);
    CHECK.due("density was unknown", x.density(0, 4, 6), 0);
    CHECK.due("times 2/3", x.needed(0, 0, 0), 2);
    CHECK.due("was known", x.density(0, 9999, 1), 1);
    CHECK.due("times 9999", x.needed(0, 0, 0), 29997);
    CHECK.due("density 1/9999", x.density(0, 1, 9999), 1);
    CHECK.due("its numerator", x.needed(0, 0, 0), 1);
    CHECK.due("its denominator", x.needed(0, 0, 1), 3333);
    CHECK.due("density 0", x.density(0, 0, 7), 1);
    CHECK.due("is known, and 0", x.needed(0, 0, 0), 0);
    CHECK.due("0 has the denominator 1", x.needed(0, 0, 1), 1);
    CHECK.due("unknown", x.density(0, -1, 9999), 1);
    CHECK.due("unknown again", x.density(0, -1, 1), 0);
    CHECK.due("not found", x.needed(0, 0, 0), RecipeScaler.NO);
    CHECK.due("the last ingredient", x.density(11, 1, 1), 0);
    x = new RecipeScaler();
    for (int i : Check.NO_INGREDIENTS) {
      CHECK.due("density of " + i, x.density(i, 1, 1), RecipeScaler.NONE);
      CHECK.due("density of " + i + ", wrong", x.density(i, -2, 0), RecipeScaler.NONE);
    }
    for (int up : new int[] {-2, 10000, Integer.MIN_VALUE, Integer.MAX_VALUE}) {
      CHECK.due("density up " + up, x.density(0, up, 1), RecipeScaler.BAD);
    }
    for (int down : new int[] {0, -1, 10000, Integer.MIN_VALUE, Integer.MAX_VALUE}) {
      CHECK.due("density down " + down, x.density(0, 1, down), RecipeScaler.BAD);
      CHECK.due("density unknown, down " + down, x.density(0, -1, down), RecipeScaler.BAD);
    }
    CHECK.due("still unknown", x.density(0, 1, 1), 0);
    CHECK.due("one change", x.count(4), 1);
  }

  private static void weight() {
    RecipeScaler x = Check.with("0:3pb=1g");
    x.scale(0, 1, 1);
    CHECK.due("unknown at first", x.needed(1, 0, 0), RecipeScaler.NO);
    CHECK.due("a density does not help", x.density(1, 1, 1), 0);
    CHECK.due("still unknown", x.needed(1, 0, 0), RecipeScaler.NO);
    CHECK.due("weight was unknown", x.weight(1, 50, 4), 0);
    CHECK.due("numerator", x.needed(1, 0, 0), 75);
    CHECK.due("denominator", x.needed(1, 0, 1), 2);
    CHECK.due("weight 0", x.weight(1, 0, 9999), 1);
    CHECK.due("is known, and 0", x.needed(1, 0, 0), 0);
    CHECK.due("unknown", x.weight(1, -1, 1), 1);
    CHECK.due("was unknown", x.weight(1, 9999, 9999), 0);
    CHECK.due("is 1", x.needed(1, 0, 0), 3);
    CHECK.due("changes", x.count(4), 7);
    for (int i : Check.NO_INGREDIENTS) {
      CHECK.due("weight of " + i, x.weight(i, 1, 1), RecipeScaler.NONE);
      CHECK.due("weight of " + i + ", wrong", x.weight(i, 1, 0), RecipeScaler.NONE);
    }
    for (int up : new int[] {-2, 10000, Integer.MIN_VALUE, Integer.MAX_VALUE}) {
      CHECK.due("weight up " + up, x.weight(1, up, 1), RecipeScaler.BAD);
    }
    for (int down : new int[] {0, -1, 10000, Integer.MIN_VALUE, Integer.MAX_VALUE}) {
      CHECK.due("weight down " + down, x.weight(1, 1, down), RecipeScaler.BAD);
      CHECK.due("weight unknown, down " + down, x.weight(1, -1, down), RecipeScaler.BAD);
    }
    CHECK.due("no change", x.count(4), 7);
    CHECK.due("still 1", x.needed(1, 0, 0), 3);
  }

  private static void allergens() {
    RecipeScaler x = new RecipeScaler();
    CHECK.due("none at first", x.allergens(3, 255, 1), 0);
    CHECK.due("previous", x.allergens(3, 6, 255), 255 + 256);
    CHECK.due("previous", x.allergens(3, 0, 128), 6 + 256 * 255);
    CHECK.due("previous", x.allergens(3, 0, 0), 256 * 128);
    CHECK.due("of another", x.allergens(11, 1, 1), 0);
    for (int i : Check.NO_INGREDIENTS) {
      CHECK.due("allergens of " + i, x.allergens(i, 0, 0), RecipeScaler.NONE);
      CHECK.due("allergens of " + i + ", wrong", x.allergens(i, 256, 0), RecipeScaler.NONE);
    }
    for (int set : new int[] {-1, 256, Integer.MIN_VALUE, Integer.MAX_VALUE}) {
      CHECK.due("contained " + set, x.allergens(11, set, 0), RecipeScaler.BAD);
      CHECK.due("traces " + set, x.allergens(11, 0, set), RecipeScaler.BAD);
    }
    CHECK.due("unchanged", x.allergens(11, 0, 0), 257);
    CHECK.due("changes", x.count(4), 6);
  }

  private static void stock() {
    RecipeScaler x = new RecipeScaler();
    CHECK.due("0 at first", x.stock(0, 5), 0);
    CHECK.due("previous", x.stock(0, 999999), 5);
    CHECK.due("previous", x.stock(0, 0), 999999);
    CHECK.due("of the last", x.stock(11, 7), 0);
    for (int i : Check.NO_INGREDIENTS) {
      CHECK.due("stock of " + i, x.stock(i, 0), RecipeScaler.NONE);
      CHECK.due("stock of " + i + ", wrong", x.stock(i, -1), RecipeScaler.NONE);
    }
    for (int grams : new int[] {-1, 1000000, Integer.MIN_VALUE, Integer.MAX_VALUE}) {
      CHECK.due("stock " + grams, x.stock(11, grams), RecipeScaler.BAD);
    }
    CHECK.due("unchanged", x.count(31), 7);
    CHECK.due("changes", x.count(4), 4);
  }

  private static void pack() {
    RecipeScaler x = new RecipeScaler();
    CHECK.due("pack 0", x.pack(2, 1, 0), 0);
    CHECK.due("pack 1", x.pack(2, 2000, 999), 1);
    CHECK.due("pack 2", x.pack(2, 1, 0), 2);
    CHECK.due("pack 3", x.pack(2, 1, 0), RecipeScaler.FULL);
    CHECK.due("BAD ahead of FULL", x.pack(2, 0, 0), RecipeScaler.BAD);
    CHECK.due("packs", x.count(42), 3);
    CHECK.due("of another", x.pack(11, 5, 5), 0);
    for (int i : Check.NO_INGREDIENTS) {
      CHECK.due("pack of " + i, x.pack(i, 1, 1), RecipeScaler.NONE);
      CHECK.due("pack of " + i + ", wrong", x.pack(i, 0, 1000), RecipeScaler.NONE);
    }
    for (int size : new int[] {0, -1, 2001, Integer.MIN_VALUE, Integer.MAX_VALUE}) {
      CHECK.due("size " + size, x.pack(0, size, 1), RecipeScaler.BAD);
    }
    for (int price : new int[] {-1, 1000, Integer.MIN_VALUE, Integer.MAX_VALUE}) {
      CHECK.due("price " + price, x.pack(0, 1, price), RecipeScaler.BAD);
    }
    CHECK.due("none added", x.count(40), 0);
    CHECK.due("changes", x.count(4), 4);
  }

  private static void removePack() {
    RecipeScaler x = Check.with("0:1ga=1g");
    x.scale(0, 30, 1);
    CHECK.due("none yet", x.removePack(0), RecipeScaler.STATE);
    x.pack(0, 7, 1);
    x.pack(0, 10, 1);
    x.pack(0, 30, 1);
    CHECK.due("the third is bought", x.shopping(0, 12), 1);
    CHECK.due("two remain", x.removePack(0), 2);
    CHECK.due("the second is bought", x.shopping(0, 11), 3);
    CHECK.due("one remains", x.removePack(0), 1);
    CHECK.due("the first is bought", x.shopping(0, 10), 5);
    CHECK.due("none remains", x.removePack(0), 0);
    CHECK.due("none is left", x.removePack(0), RecipeScaler.STATE);
    CHECK.due("a new one is pack 0", x.pack(0, 3, 1), 0);
    CHECK.due("it is bought", x.shopping(0, 10), 10);
    for (int i : Check.NO_INGREDIENTS) {
      CHECK.due("removePack of " + i, x.removePack(i), RecipeScaler.NONE);
    }
  }

  private static void substitute() {
    RecipeScaler x = new RecipeScaler();
    CHECK.due("kind 0", x.substitute(0, 11, 1, 999, 0, 0), 0);
    CHECK.due("kind 1", x.substitute(11, 0, 999, 1, 1, 7), 1);
    CHECK.due("kind 1, allergen 0", x.substitute(11, 0, 999, 1, 1, 0), 2);
    CHECK.due("kind 2", x.substitute(1, 2, 2, 4, 2, 999999), 3);
    CHECK.due("kind 2, number 0", x.substitute(1, 2, 2, 4, 2, 0), 4);
    CHECK.due("kind 3", x.substitute(1, 2, 2, 4, 3, 0), 5);
    CHECK.due("count", x.count(2), 6);
    CHECK.due("a seventh", x.substitute(1, 2, 2, 4, 3, 0), RecipeScaler.FULL);
    CHECK.due("BAD ahead of FULL", x.substitute(1, 1, 2, 4, 3, 0), RecipeScaler.BAD);
    CHECK.due("NONE ahead of FULL", x.substitute(1, 2, 2, 4, 4, 0), RecipeScaler.NONE);
    CHECK.due("changes", x.count(4), 6);
  }

  private static void substituteWrong() {
    RecipeScaler x = new RecipeScaler();
    for (int i : Check.NO_INGREDIENTS) {
      CHECK.due("x " + i, x.substitute(i, 1, 1, 1, 0, 0), RecipeScaler.NONE);
      CHECK.due("y " + i, x.substitute(1, i, 1, 1, 0, 0), RecipeScaler.NONE);
      CHECK.due("x is y is " + i, x.substitute(i, i, 1, 1, 0, 0), RecipeScaler.NONE);
    }
    for (int kind : new int[] {-1, 4, Integer.MIN_VALUE, Integer.MAX_VALUE}) {
      CHECK.due("kind " + kind, x.substitute(0, 1, 1, 1, kind, 0), RecipeScaler.NONE);
      CHECK.due("kind " + kind + ", wrong", x.substitute(0, 0, 0, 0, kind, -1), RecipeScaler.NONE);
    }
    for (int part : new int[] {0, -1, 1000, Integer.MIN_VALUE, Integer.MAX_VALUE}) {
      CHECK.due("up " + part, x.substitute(0, 1, part, 1, 0, 0), RecipeScaler.BAD);
      CHECK.due("down " + part, x.substitute(0, 1, 1, part, 0, 0), RecipeScaler.BAD);
    }
    CHECK.due("x is y", x.substitute(5, 5, 1, 1, 0, 0), RecipeScaler.BAD);
    int[][] values = {{0, 1}, {0, -1}, {1, -1}, {1, 8}, {2, -1}, {2, 1000000}, {3, 1}, {3, -1},
        {0, Integer.MIN_VALUE}, {1, Integer.MAX_VALUE}, {2, Integer.MAX_VALUE}};
    for (int[] row : values) {
      CHECK.due("kind " + row[0] + " v " + row[1],
          x.substitute(0, 1, 1, 1, row[0], row[1]), RecipeScaler.BAD);
    }
    CHECK.due("none added", x.count(2), 0);
    CHECK.due("no change", x.count(4), 0);
  }

  private static void removeSubstitution() {
    RecipeScaler x = Check.with("0:1ga,1gb,1gc=1g");
    x.scale(0, 1, 1);
    x.substitute(0, 3, 2, 1, 0, 0);
    x.substitute(1, 3, 3, 1, 0, 0);
    x.substitute(2, 3, 5, 1, 0, 0);
    CHECK.due("all three", x.needed(3, 1, 0), 10);
    for (int i : new int[] {-1, 3, 6, Integer.MIN_VALUE, Integer.MAX_VALUE}) {
      CHECK.due("removeSubstitution " + i, x.removeSubstitution(i), RecipeScaler.NONE);
    }
    CHECK.due("the middle one", x.removeSubstitution(1), 2);
    CHECK.due("the others", x.needed(3, 1, 0), 7);
    CHECK.due("the third is the second now", x.applied(1, 1), 1);
    CHECK.due("there is no third", x.applied(2, 0), RecipeScaler.NO);
    CHECK.due("the first", x.removeSubstitution(0), 1);
    CHECK.due("the last", x.needed(3, 1, 0), 5);
    CHECK.due("the only one", x.removeSubstitution(0), 0);
    CHECK.due("none", x.removeSubstitution(0), RecipeScaler.NONE);
    CHECK.due("nothing is replaced", x.needed(3, 1, 0), 0);
    for (int i = 0; i < 6; i++) {
      x.substitute(i, 11, 1, 1, 0, 0);
    }
    CHECK.due("of six the last", x.removeSubstitution(5), 5);
    CHECK.due("of five the first", x.removeSubstitution(0), 4);
    CHECK.due("a new one", x.substitute(9, 10, 1, 1, 0, 0), 4);
  }

  private static void eachLeavesTheOthers() {
    for (int change = 0; change < 7; change++) {
      RecipeScaler x = Check.with("0:10ma,10pa=1g");
      x.density(0, 1, 1);
      x.weight(0, 2, 1);
      x.allergens(0, 3, 4);
      x.pack(0, 10, 9);
      x.scale(0, 1, 1);
      int[] answers = {x.density(change == 0 ? 0 : 1, 1, 1), x.weight(change == 1 ? 0 : 1, 2, 1),
          x.allergens(change == 2 ? 0 : 1, 3, 4), x.stock(change == 3 ? 0 : 1, 0),
          x.pack(change == 4 ? 0 : 1, 10, 9), change == 5 ? x.removePack(0) : x.removePack(1),
          change == 6 ? x.buy() : 0};
      CHECK.due("change " + change, answers[change], new int[] {1, 1, 1027, 0, 1, 0, 27}[change]);
      CHECK.due("packs behind change " + change, x.count(40), change == 4 ? 2 : change == 5 ? 0 : 1);
      CHECK.due("stock behind change " + change, x.count(20), 0);
      x.scale(0, 1, 1);
      CHECK.due("need behind change " + change, x.needed(0, 0, 0), 30);
      CHECK.due("risk behind change " + change, x.risk(0) + 256 * x.risk(1), 3 + 256 * 4);
      CHECK.due("price behind change " + change, x.account(0), change == 5 ? 0 : 27);
      CHECK.due("its density was known", x.density(0, 1, 1), 1);
      CHECK.due("its weight was known", x.weight(0, 1, 1), 1);
    }
  }
}
