/** The words on what is needed and on plans, and on promises 13, 14, 18, 19, 25 and 26. */
public final class NeedsBoundsTest {
  private static final Check CHECK = new Check("NeedsBoundsTest");
  private static final int[] NO_FACTORS = {0, -1, 10000, Integer.MIN_VALUE, Integer.MAX_VALUE};

  // Items gone through: 6 for recipe 2, 42 for 1, 258 for 0 and 36 for 6.
  private static final String[] MANY_ITEMS = {"2:1ga,1ga,1ga,1ga,1ga,1ga=1g",
      "1:1g2,1g2,1g2,1g2,1g2,1g2=1g", "0:1g1,1g1,1g1,1g1,1g1,1g1=1g",
      "6:1g2,1g2,1g2,1g2,1g2,1ga=1g", "7:1ga=1g"};

  public static void main(String[] args) {
    itemsInTheirOrder();
    products();
    innerRecipes();
    missingAndSelfContained();
    unitsAndGrams();
    tooGreat();
    tooManyItems();
    orderOfTheReasons();
    sixAheadOfTheOthers();
    substitutionsAreIncluded();
    plans();
    scale();
    pan();
    needed();
    reason();
    reasonOfEachCall();
    reasonStays();
    again();
    againInItsOrder();
    againTooGreat();
    possible();
    possibleNot();
    CHECK.end();
  }

  /** A plan for some yields of the first text's recipe, and the reason for which it's refused. */
  private static void refused(int reason, int up, int down, String... texts) {
    RecipeScaler x = Check.with(texts);
    String call = "scale " + String.join(" ", texts) + " by " + up + "/" + down;
    CHECK.due(call, x.scale(texts[0].charAt(0) - '0', up, down), reason == -5 ? 1 : 0);
    CHECK.due(call + ", the reason", x.reason(), reason);
  }

  private static void itemsInTheirOrder() {
    CHECK.says("What a recipe needs with a factor is found by going through its items in their "
        + "order.");
    refused(1, 1, 1, "0:1g7,1ma=1g");
    refused(4, 1, 1, "0:1ma,1g7=1g");
    refused(2, 1, 1, "0:1ga,1g0,1g7,1ma=1g");
    refused(3, 1, 1, "0:1m1,1g0=1g", "1:1ga=1g");
    refused(2, 1, 1, "0:1g0,1m1=1g", "1:1ga=1g");
    // 1/997, 1/991 and 1/983 need a denominator that has no room for 977; three of them have.
    refused(-5, 1, 1, "0:1/997ga,1/991ga,1/983ga=1g");
    refused(5, 1, 1, "0:1/997ga,1/991ga,1/983ga,1/977ga=1g");
    // 1/1982 and 1981/1982 are 1, so that 1/996003 has room behind them, but not between them.
    RecipeScaler x = Check.with("0:1/991pa,1g2,1g1=1g", "1:1/997ga=999g", "2:283/991pa=1/7g");
    x.weight(0, 1, 2);
    CHECK.due("1/996003 behind them", x.scale(0, 1, 1), 1);
    Check.read(x, "0:1/991pa,1g1,1g2=1g");
    CHECK.due("1/996003 between them", x.scale(0, 1, 1), 0);
    CHECK.due("its reason", x.reason(), 5);
  }

  private static void products() {
    CHECK.says("The amount of an item is first multiplied by the factor.");
    RecipeScaler x = Check.with("0:2/3ga,5/7mb=1g");
    x.density(1, 7, 11);
    x.scale(0, 9, 4);
    CHECK.due("2/3 times 9/4", Check.needed(x, 0, 0), "3/2");
    CHECK.due("5/7 times 9/4 and 7/11", Check.needed(x, 1, 0), "45/44");
    // Multiplied by the density first, 129 would become 1.
    x = Check.with("0:983g1=1g", "1:129ma=1g");
    x.density(0, 1, 129);
    CHECK.due("129 times 983 and 7886", x.scale(0, 7886, 1), 0);
    CHECK.due("is too great", x.reason(), 5);

    CHECK.says("For an ingredient it is then multiplied by the grams of its unit: 1 for grams, "
        + "the density for millilitres, the weight for pieces;");
    x = Check.planned("0:3ga,5mb,7pc=1g");
    x.weight(0, 2, 1);
    x.density(0, 3, 1);
    x.weight(1, 11, 1);
    x.density(1, 1, 4);
    x.weight(2, 1, 6);
    x.density(2, 13, 1);
    CHECK.due("grams", Check.needed(x, 0, 0), "3/1");
    CHECK.due("millilitres", Check.needed(x, 1, 0), "5/4");
    CHECK.due("pieces", Check.needed(x, 2, 0), "7/6");

    CHECK.says("and the result is added to what was found for the ingredient so far.");
    Check.read(x, "0:3ga,5ma,7pb,1/6pa,1/2ga=1g");
    CHECK.due("all of a", Check.needed(x, 0, 0), "113/6");
    CHECK.due("all of b", Check.needed(x, 1, 0), "77/1");
    CHECK.due("nothing of c", Check.needed(x, 2, 0), "0/1");
  }

  private static void innerRecipes() {
    CHECK.says("For a recipe it is then divided by the yield of that recipe, which must have the "
        + "same unit, and the quotient is the factor with which the items of that recipe are gone "
        + "through at once.");
    RecipeScaler x = Check.with("0:3m1,1p2,2m1=9g", "1:5ga,1/2p2=4/7m", "2:6ga,1gb=8p");
    x.scale(0, 2, 3);
    // The factors of 1 are 7/2 and 7/3, those of 2 are 7/32, 1/12 and 7/48.
    CHECK.due("a", Check.needed(x, 0, 0), "1529/48");
    CHECK.due("b", Check.needed(x, 1, 0), "43/96");
    CHECK.due("the plan's own yield does not matter", Check.read(x, "0:3m1,1p2,2m1=1p"), 0);
    CHECK.due("a again", Check.needed(x, 0, 0), "1529/48");
    // At once: what is wrong in 1 is met ahead of what is wrong behind it.
    refused(4, 1, 1, "0:1g1,1g7=1g", "1:1ma=1g");
    refused(1, 1, 1, "0:1g1,1ma=1g", "1:1g7=1g");
    refused(3, 1, 1, "0:1g1,1g0=1g", "1:1g2=1g", "2:1ga=1m");
  }

  private static void missingAndSelfContained() {
    CHECK.says("It cannot be found for the first of these reasons that is met: "
        + "1 a recipe is missing, the one begun with included;");
    refused(1, 1, 1, "0:1g7=1g");
    refused(1, 1, 1, "0:1g1=1g", "1:1g2=1g", "2:1g3=1g");
    refused(-5, 1, 1, "0:1g1=1g", "1:1ga=1g");
    RecipeScaler x = Check.planned("0:1ga=1g");
    x.removeRecipe(0);
    CHECK.due("the one begun with", Check.needed(x, 0, 0), "NO");
    CHECK.due("its reason", x.reason(), 1);
    x = Check.planned("0:1g0=1g");
    CHECK.due("possible", Check.possible(x, 5), "NO");
    CHECK.due("begun with a missing one", x.reason(), 1);

    CHECK.says("2 a recipe contains itself, directly or through others: it is met while its own "
        + "items are gone through;");
    refused(2, 1, 1, "0:1g0=1g");
    refused(2, 1, 1, "0:1ga,1g1=1g", "1:1ga,1g0=1g");
    refused(2, 1, 1, "7:1g6=1g", "6:1g5=1g", "5:1g4=1g", "4:1g3=1g", "3:1g2=1g", "2:1g1=1g",
        "1:1g0=1g", "0:1g7=1g");
    refused(2, 1, 1, "0:1g1=1g", "1:1g2=1g", "2:1g1=1g");
    refused(2, 1, 1, "0:1g1=1g", "1:1g1=1g");
    // Met again, but not while its own items are gone through.
    refused(-5, 1, 1, "0:1g1,1g1=1g", "1:1ga=1g");
    refused(-5, 1, 1, "0:1g1,1g2,1g1=1g", "1:1ga=1g", "2:1g1,1g1=1g");
    refused(-5, 1, 1, "7:1g6=1g", "6:1g5=1g", "5:1g4=1g", "4:1g3=1g", "3:1g2=1g", "2:1g1=1g",
        "1:1g0=1g", "0:1ga=1g");
    // A loop that is not reached does not matter.
    refused(-5, 1, 1, "0:1ga=1g", "1:1g0,1g1=1g");
  }

  private static void unitsAndGrams() {
    CHECK.says("3 the units of an item and of the yield of its recipe differ;");
    String units = "gmp";
    for (char unit : units.toCharArray()) {
      for (char yield : units.toCharArray()) {
        refused(unit == yield ? -5 : 3, 1, 1, "0:1" + unit + "1=1g", "1:1ga=1" + yield);
      }
    }

    CHECK.says("4 a density or weight is unknown;");
    refused(4, 1, 1, "0:1ma=1g");
    refused(4, 1, 1, "0:1pa=1g");
    RecipeScaler x = Check.planned("0:1ma=1g", "1:1pa=1g");
    x.weight(0, 1, 1);
    CHECK.due("a density, though a weight is known", x.scale(0, 1, 1), 0);
    CHECK.due("the weight", x.scale(1, 1, 1), 1);
    x.weight(0, -1, 1);
    x.density(0, 0, 1);
    CHECK.due("a density of 0 is known", x.scale(0, 1, 1), 1);
    CHECK.due("the weight is not", x.scale(1, 1, 1), 0);
    CHECK.due("its reason", x.reason(), 4);
    x.weight(0, 0, 1);
    CHECK.due("a weight of 0 is known", x.scale(1, 1, 1), 1);
  }

  private static void tooGreat() {
    CHECK.says("5 a fraction that comes up, each product, quotient and sum on the way, is too great "
        + "in lowest terms;");
    // 983 times 7886 times 129 is 2 above, and times 128 below; with 1/.. so is the denominator.
    // The product with the factor, of a recipe; the yields make the quotients small again.
    refused(5, 7886, 1, "0:983g1=1g", "1:129g2=1g", "2:1ga=999g");
    refused(-5, 7886, 1, "0:983g1=1g", "1:128g2=1g", "2:1ga=999g");
    refused(5, 1, 7886, "0:1/983g1=1g", "1:1/129g2=1g", "2:1ga=1/999g");
    refused(-5, 1, 7886, "0:1/983g1=1g", "1:1/128g2=1g", "2:1ga=1/999g");
    // The quotient; the amounts of 2 make the products small again.
    refused(5, 7886, 1, "0:983g1=1g", "1:1g2=1/129g", "2:1/999ga=1g");
    refused(-5, 7886, 1, "0:983g1=1g", "1:1g2=1/128g", "2:1/999ga=1g");
    refused(5, 1, 7886, "0:1/983g1=1g", "1:1g2=129g", "2:999ga=1g");
    refused(-5, 1, 7886, "0:1/983g1=1g", "1:1g2=128g", "2:999ga=1g");
    // The product with the factor, of an ingredient.
    refused(5, 7886, 1, "0:983g1=1g", "1:129ga=1g");
    refused(-5, 7886, 1, "0:983g1=1g", "1:128ga=1g");
    refused(5, 1, 7886, "0:1/983g1=1g", "1:1/129ga=1g");
    refused(-5, 1, 7886, "0:1/983g1=1g", "1:1/128ga=1g");
    withGrams(129, 0);
    withGrams(128, 1);
    // Sums: of numerators 10^9 and 1, and of denominators 997, 991, 983 and 977.
    refused(-5, 5000, 1, "0:500g1,1/500gb=1g", "1:400ga=1g");
    refused(5, 5000, 1, "0:500g1,1/500ga=1g", "1:400ga=1g");
    refused(5, 5000, 1, "0:1/500ga,500g1=1g", "1:400ga=1g");
    refused(-5, 1, 1, "0:1/997ga,1/991ga,1/983ga,1/977gb=1g");
    refused(5, 1, 1, "0:1/997ga,1/991ga,1/983ga,1/977ga=1g");
    // Too great ahead of lowest terms only: 983 times 129 times 7886 is 2 above, and half is not.
    refused(-5, 7886, 1, "0:983/2g1=1g", "1:129ga=1g");
    refused(-5, 7886, 2, "0:983g1=1g", "1:129g2=1g", "2:1ga=1g");
    refused(-5, 7886, 1, "0:983g1=1g", "1:1g2=2/129g", "2:1ga=1g");
  }

  /** The product with the density or weight, where that with the factor is 983 times 7886. */
  private static void withGrams(int grams, int found) {
    RecipeScaler x = Check.with("0:983ma=1g", "1:1/983pb=1g");
    x.density(0, grams, 1);
    x.weight(1, 1, grams);
    CHECK.due("times " + grams, x.scale(0, 7886, 1), found);
    CHECK.due("times 1/" + grams, x.scale(1, 1, 7886), found);
    // The product with the factor counts even where the density is 0.
    RecipeScaler y = Check.with("0:983g1=1g", "1:" + grams + "ma=1g");
    y.density(0, 0, 1);
    CHECK.due("times " + grams + " and 0", y.scale(0, 7886, 1), found);
  }

  private static RecipeScaler manyItems(String last) {
    RecipeScaler x = Check.with(MANY_ITEMS);
    Check.read(x, last);
    x.scale(last.charAt(0) - '0', 1, 1);
    return x;
  }

  private static void tooManyItems() {
    CHECK.says("6 an item would be the 301st one that is gone through, where each item, also one "
        + "with a recipe, counts as often as it is gone through.");
    RecipeScaler x = manyItems("3:1g0,1g6,1ga,1ga,1ga,1ga=1g");
    CHECK.due("300 items", Check.needed(x, 0, 0), 216 + 31 + 4 + "/1");
    CHECK.due("no reason", x.reason(), -5);
    CHECK.due("possible with 300", Check.possible(x, 3), "0/1");
    CHECK.due("again with 300", Check.again(x, 0), 216 + 31 + 4 + "/1");
    x = manyItems("3:1g0,1g6,1ga,1ga,1ga,1g7=1g");
    CHECK.due("301 items", Check.needed(x, 0, 0), "NO");
    CHECK.due("their reason", x.reason(), 6);
    x = manyItems("3:1g0,1g6,1ga,1g7,1ga=1g");
    CHECK.due("300 items again", Check.needed(x, 0, 0), 216 + 31 + 3 + "/1");
    x = manyItems("3:1g0,1g6,1ga,1g7,1g7=1g");
    CHECK.due("301 items again", x.reason(), 6);
    CHECK.due("possible with 301", Check.possible(x, 3), "NO");
    CHECK.due("each question counts anew", x.scale(0, 1, 1), 1);
    CHECK.due("and anew", x.scale(0, 1, 1), 1);
  }

  private static void orderOfTheReasons() {
    CHECK.says("For each item, 6 is looked at first; then, for an item with a recipe, 1, 2 and 3 "
        + "are looked at in this order, before the amount is multiplied; for an ingredient, 4 is.");
    // 2 ahead of 3: the own yield has another unit.
    refused(2, 1, 1, "0:1m0=1g");
    refused(2, 1, 1, "0:1g1=1g", "1:1p0=1g");
    // 1, 2, 3 and 4 ahead of 5: the amount in recipe 1 would be too great.
    refused(5, 7886, 1, "0:983g1=1g", "1:129ga=1g");
    refused(1, 7886, 1, "0:983g1=1g", "1:129g7=1g");
    refused(2, 7886, 1, "0:983g1=1g", "1:129g0=1g");
    refused(2, 7886, 1, "0:983g1=1g", "1:129m1=1g");
    refused(3, 7886, 1, "0:983g1=1g", "1:129g2=1g", "2:1ga=1m");
    refused(4, 7886, 1, "0:983g1=1g", "1:129ma=1g");
    refused(4, 7886, 1, "0:983g1=1g", "1:129pa=1g");
    // But 5 of an item ahead of what is behind it, or within it.
    refused(5, 7886, 1, "0:983g1=1g", "1:129ga,1g7=1g");
    refused(5, 7886, 1, "0:983g1=1g", "1:129g2=1g", "2:1g7=1g");
  }

  private static void sixAheadOfTheOthers() {
    String[] last = {"1ga", "1g5", "1g4", "1m7", "1mb", "1pb"};
    int[] due = {-5, 1, 2, 3, 4, 4};
    for (int i = 0; i < last.length; i++) {
      RecipeScaler x = manyItems("4:1g0,1g6,1ga,1ga,1ga," + last[i] + "=1g");
      CHECK.due("item 300 is " + last[i], x.reason(), due[i]);
      x = manyItems("4:1g0,1g6,1ga,1ga,1g7," + last[i] + "=1g");
      CHECK.due("item 301 is " + last[i], x.reason(), 6);
    }
    // 500 times 400 and 5000 is 10^9, so that 1 of the same ingredient is too much.
    String[] texts = {"4:1g0,1g6,1gb,1gb,1gb,500g5=1g", "4:1g0,1g6,1gb,1gb,500g5,1gb=1g"};
    for (int i = 0; i < 2; i++) {
      RecipeScaler x = Check.with(MANY_ITEMS);
      Check.read(x, "5:400gb=1g");
      Check.read(x, texts[i]);
      CHECK.due("item 301", x.scale(4, 5000, 1), 0);
      CHECK.due("is looked at behind 5 of item 300 " + i, x.reason(), i == 0 ? 6 : 5);
    }
  }

  private static void substitutionsAreIncluded() {
    CHECK.says("Where what is needed for a plan cannot be found, the substitutions are included.");
    RecipeScaler x = Check.with("0:983g1=1g@1", "1:1ga=1g");
    x.substitute(0, 1, 129, 1, 0, 0);
    CHECK.due("scale", x.scale(0, 7886, 1), 0);
    CHECK.due("the reason", x.reason(), 5);
    CHECK.due("needed before", Check.needed(x, 0, 0), "NO");
    CHECK.due("needed after", Check.needed(x, 0, 1), "NO");
    CHECK.due("applied", Check.applied(x, 0), "NO");
    CHECK.due("shopping", x.shopping(5, 0), RecipeScaler.STATE);
    CHECK.due("account", x.account(0), RecipeScaler.STATE);
    CHECK.due("risk", x.risk(0), RecipeScaler.STATE);
    CHECK.due("again", Check.again(x, 0), "NO");
    CHECK.due("buy", x.buy(), RecipeScaler.STATE);
    CHECK.due("pan", x.pan(0, 7886), 0);
    CHECK.due("but not for possible", Check.possible(x, 0), "0/1");
    CHECK.due("nor for a path", x.path(0, 0), -5);
    x.removeSubstitution(0);
    CHECK.due("without it", Check.needed(x, 0, 0), 983 * 7886 + "/1");
  }

  private static void plans() {
    CHECK.says("There is a plan or none, at first none.");
    RecipeScaler x = Check.with("0:1ga=1g");
    CHECK.due("recipe of the plan", x.count(5), -5);
    CHECK.due("numerator of its factor", x.count(6), -5);
    CHECK.due("denominator of its factor", x.count(7), -5);
    CHECK.due("needed", Check.needed(x, 0, 0), "NO");
    CHECK.due("again", Check.again(x, 0), "NO");
    CHECK.due("risk", x.risk(0), RecipeScaler.STATE);
    CHECK.due("that is no reason", x.reason(), -5);

    CHECK.says("A plan consists of a recipe and a factor, a fraction.");
    x.scale(0, 6, 9);
    CHECK.due("recipe of the plan", x.count(5), 0);
    CHECK.due("numerator of its factor", x.count(6), 2);
    CHECK.due("denominator of its factor", x.count(7), 3);
    Check.read(x, "1:1gb=1g");
    x.scale(1, 5, 1);
    CHECK.due("one plan at a time", x.count(5), 1);
    CHECK.due("its factor", x.count(6), 5);
    CHECK.due("not the first one's", Check.needed(x, 0, 0), "0/1");

    CHECK.says("All that is asked of it follows from the present data.");
    x = Check.planned("0:4ma=1g");
    CHECK.due("not found", Check.needed(x, 0, 1), "NO");
    x.density(0, 1, 2);
    CHECK.due("behind density", Check.needed(x, 0, 1), "2/1");
    x.pack(0, 3, 5);
    CHECK.due("behind pack", x.account(0), 5);
    x.stock(0, 1);
    CHECK.due("behind stock", x.shopping(0, 0), 1);
    x.allergens(0, 1, 2);
    CHECK.due("behind allergens", x.risk(0), 1);
    x.substitute(0, 1, 1, 1, 0, 0);
    CHECK.due("behind substitute", Check.needed(x, 1, 1), "2/1");
    CHECK.due("risk behind substitute", x.risk(0), 0);
    Check.read(x, "0:7gc=1g");
    CHECK.due("behind read", Check.needed(x, 2, 1), "7/1");
    x.removeRecipe(0);
    CHECK.due("behind removeRecipe", Check.needed(x, 2, 1), "NO");
    x.back();
    CHECK.due("behind back", Check.needed(x, 2, 1), "7/1");
  }

  private static void scale() {
    CHECK.says("Makes a plan for a number of yields of a recipe. - `recipe`: the recipe");
    RecipeScaler x = Check.with("0:1ga=3g@2", "7:5gb=4p");
    x.scale(7, 3, 2);
    CHECK.due("recipe", x.count(5), 7);
    CHECK.due("up", x.count(6), 3);
    CHECK.due("down", x.count(7), 2);
    CHECK.due("yields, not pieces", Check.needed(x, 1, 0), "15/2");

    CHECK.says("- `up`: the numerator of the factor, 1 to 9999");
    CHECK.due("1", x.scale(0, 1, 1), 1);
    CHECK.due("9999", x.scale(0, 9999, 1), 1);
    CHECK.due("needed", Check.needed(x, 0, 0), "9999/1");
    for (int up : NO_FACTORS) {
      CHECK.due("up " + up, x.scale(0, up, 1), RecipeScaler.BAD);
    }

    CHECK.says("- `down`: the denominator of the factor, 1 to 9999");
    CHECK.due("9999", x.scale(0, 1, 9999), 1);
    CHECK.due("needed", Check.needed(x, 0, 0), "1/9999");
    CHECK.due("both", x.scale(0, 9999, 9999), 1);
    CHECK.due("needed", Check.needed(x, 0, 0), "1/1");
    for (int down : NO_FACTORS) {
      CHECK.due("down " + down, x.scale(0, 1, down), RecipeScaler.BAD);
    }

    CHECK.says("Returns 1 if what is needed can be found, substitutions included, otherwise 0; "
        + "NONE if there is no such number; STATE if it is missing; "
        + "BAD if up or down is out of range.");
    int changes = x.count(4);
    for (int r : Check.NO_RECIPES) {
      CHECK.due("scale " + r, x.scale(r, 1, 1), RecipeScaler.NONE);
      CHECK.due("NONE ahead of BAD " + r, x.scale(r, 0, 0), RecipeScaler.NONE);
    }
    for (int r = 1; r < 7; r++) {
      CHECK.due("missing " + r, x.scale(r, 1, 1), RecipeScaler.STATE);
      CHECK.due("STATE ahead of BAD " + r, x.scale(r, 0, 10000), RecipeScaler.STATE);
    }
    CHECK.due("these leave the plan", x.count(5), 0);
    CHECK.due("and are no changes", x.count(4), changes);
    CHECK.due("no reason", x.reason(), -5);
    Check.read(x, "1:1mc=1g");
    CHECK.due("not found", x.scale(1, 5, 1), 0);
    CHECK.due("is a plan as well", x.count(5) * 10 + x.count(6), 15);
  }

  private static void pan() {
    CHECK.says("Makes a plan for a pan: the factor is the area divided by the area of the pan of "
        + "the recipe. - `recipe`: the recipe");
    RecipeScaler x = Check.with("0:1ga=3g@500", "7:5gb=4p@999", "1:1ga=1g");
    x.pan(0, 750);
    CHECK.due("recipe", x.count(5), 0);
    CHECK.due("up", x.count(6), 3);
    CHECK.due("down", x.count(7), 2);
    CHECK.due("needed", Check.needed(x, 0, 0), "3/2");
    Check.read(x, "0:1ga=3g@250");
    CHECK.due("the factor stays when the pan is another one", Check.needed(x, 0, 0), "3/2");

    CHECK.says("- `area`: the area, 1 to 9999");
    CHECK.due("1", x.pan(7, 1), 1);
    CHECK.due("needed", Check.needed(x, 1, 0), "5/999");
    CHECK.due("9999", x.pan(7, 9999), 1);
    CHECK.due("needed", Check.needed(x, 1, 0), "5555/111");

    CHECK.says("Returns 1 if what is needed can be found, substitutions included, otherwise 0; "
        + "NONE if there is no such number; STATE if it is missing or has no pan; "
        + "BAD if area is out of range.");
    int changes = x.count(4);
    for (int r : Check.NO_RECIPES) {
      CHECK.due("pan " + r, x.pan(r, 1), RecipeScaler.NONE);
      CHECK.due("NONE ahead of BAD " + r, x.pan(r, 0), RecipeScaler.NONE);
    }
    CHECK.due("missing", x.pan(2, 1), RecipeScaler.STATE);
    CHECK.due("missing, STATE ahead of BAD", x.pan(2, 0), RecipeScaler.STATE);
    CHECK.due("no pan", x.pan(1, 1), RecipeScaler.STATE);
    CHECK.due("no pan, STATE ahead of BAD", x.pan(1, 10000), RecipeScaler.STATE);
    for (int area : NO_FACTORS) {
      CHECK.due("area " + area, x.pan(0, area), RecipeScaler.BAD);
    }
    CHECK.due("these leave the plan", x.count(5), 7);
    CHECK.due("and are no changes", x.count(4), changes);
    CHECK.due("no reason", x.reason(), -5);
    Check.read(x, "1:1mc=1g@1");
    CHECK.due("not found", x.pan(1, 9999), 0);
    CHECK.due("is a plan as well", x.count(6), 9999);
  }

  private static void needed() {
    CHECK.says("Returns what is needed of an ingredient for the plan. - `ingredient`: the "
        + "ingredient");
    RecipeScaler x = Check.planned("0:1ga,2gb,3gc,4gd,5ge,1g1=1g", "1:6gf,7gg,8gh,9gi,1g2=1g",
        "2:10gj,11gk,12gl=1g");
    for (int i = 0; i < 12; i++) {
      CHECK.due("ingredient " + i, Check.needed(x, i, 0), i + 1 + "/1");
      CHECK.due("ingredient " + i + " after", Check.needed(x, i, 1), i + 1 + "/1");
      CHECK.due("again " + i, Check.again(x, i), i + 1 + "/1");
    }

    CHECK.says("- `isAfter`: 1 after the substitutions, 0 before them");
    x.substitute(0, 11, 1, 2, 0, 0);
    CHECK.due("before, a", Check.needed(x, 0, 0), "1/1");
    CHECK.due("before, l", Check.needed(x, 11, 0), "12/1");
    CHECK.due("after, a", Check.needed(x, 0, 1), "0/1");
    CHECK.due("after, l", Check.needed(x, 11, 1), "25/2");

    CHECK.says("- `part`: 0 for the numerator, 1 for the denominator");
    CHECK.due("numerator", x.needed(11, 1, 0), 25);
    CHECK.due("denominator", x.needed(11, 1, 1), 2);

    CHECK.says("Returns the part, in grams; NO if there is no such ingredient, isAfter or part is "
        + "invalid, there is no plan, or what is needed cannot be found.");
    for (int i : Check.NO_INGREDIENTS) {
      CHECK.due("needed of " + i, x.needed(i, 0, 0), RecipeScaler.NO);
      CHECK.due("needed of " + i + " after", x.needed(i, 1, 1), RecipeScaler.NO);
    }
    for (int wrong : Check.NO_PARTS) {
      CHECK.due("isAfter " + wrong, x.needed(0, wrong, 0), RecipeScaler.NO);
      CHECK.due("part " + wrong, x.needed(0, 0, wrong), RecipeScaler.NO);
      CHECK.due("part " + wrong + " after", x.needed(0, 1, wrong), RecipeScaler.NO);
    }
    x.removeRecipe(2);
    CHECK.due("not found", Check.needed(x, 0, 0), "NO");
    CHECK.due("not found after", Check.needed(x, 0, 1), "NO");
    RecipeScaler y = Check.with("0:1ga=1g");
    CHECK.due("no plan", Check.needed(y, 0, 0), "NO");
    CHECK.due("no plan, after", Check.needed(y, 0, 1), "NO");
  }

  private static void reason() {
    CHECK.says("Returns the latest reason because of which what is needed could not be found, "
        + "by any call.");
    RecipeScaler x = Check.planned("0:1ma=1g", "1:1g7=1g");
    CHECK.due("by scale", x.reason(), 4);
    x.possible(1, 0);
    CHECK.due("by possible, the latest", x.reason(), 1);
    x.needed(0, 0, 0);
    CHECK.due("by needed, the latest", x.reason(), 4);

    CHECK.says("Returns the reason, 1 to 6, or -5 if there was none.");
    CHECK.due("none", new RecipeScaler().reason(), -5);
    CHECK.due("none behind what is found", Check.reasonOf("0:1ga=1g"), -5);
    CHECK.due("1", Check.reasonOf("0:1g1=1g"), 1);
    CHECK.due("2", Check.reasonOf("0:1g0=1g"), 2);
    CHECK.due("3", Check.reasonOf("0:1g1=1g", "1:1ga=1m"), 3);
    CHECK.due("4", Check.reasonOf("0:1ma=1g"), 4);
    CHECK.due("5", Check.reasonOf("0:1/997ga,1/991ga,1/983ga,1/977ga=1g"), 5);
    CHECK.due("6", manyItems("3:1g0,1g1=1g").reason(), 6);
  }

  private static final String[] CALLS = {"scale", "pan", "buy", "needed", "applied", "shopping",
      "account", "risk", "again"};

  /** Makes a call that needs what the plan needs, with right arguments or a wrong one. */
  private static long call(RecipeScaler x, String name, boolean isRight) {
    switch (name) {
      case "scale":
        return x.scale(0, isRight ? 1 : 0, 1);
      case "pan":
        return x.pan(0, isRight ? 1 : 0);
      case "buy":
        return x.buy();
      case "needed":
        return x.needed(isRight ? 0 : 12, 0, 0);
      case "applied":
        return x.applied(isRight ? 0 : 1, 0);
      case "shopping":
        return x.shopping(0, isRight ? 0 : 10);
      case "account":
        return x.account(isRight ? 0 : 5);
      case "risk":
        return x.risk(isRight ? 0 : 2);
      default:
        return x.again(0, isRight ? 0 : 2);
    }
  }

  private static void reasonOfEachCall() {
    CHECK.says("Questions change nothing but the latest refusal: each call that needs what a recipe "
        + "needs, and cannot find it, keeps the reason;");
    for (String name : CALLS) {
      RecipeScaler x = Check.planned("0:1ma=1g@1", "1:1g7=1g");
      x.substitute(0, 1, 1, 1, 0, 0);
      x.possible(1, 0);
      CHECK.due("ahead of " + name, x.reason(), 1);
      CHECK.isTrue("refused by " + name, call(x, name, true) <= 0);
      CHECK.due("by " + name, x.reason(), 4);
      x.density(0, 999, 1);
      x.substitute(1, 2, 999, 1, 0, 0);
      x.substitute(2, 3, 999, 1, 0, 0);
      x.substitute(3, 4, 999, 1, 0, 0);
      CHECK.isTrue("refused by " + name + " in substitutions", call(x, name, true) <= 0);
      CHECK.due("by " + name + " in substitutions", x.reason(), 5);
    }
    RecipeScaler x = Check.planned("0:1ga=1g", "1:1g1=1g");
    CHECK.due("possible", Check.possible(x, 1), "NO");
    CHECK.due("by possible", x.reason(), 2);
    CHECK.due("possible of a missing one", Check.possible(x, 7), "NO");
    CHECK.due("by possible of a missing one", x.reason(), 1);
  }

  private static void reasonStays() {
    CHECK.says("it stays when others find it, when an argument is wrong, and for fractions that are "
        + "too great in possible and again alone.");
    for (String name : CALLS) {
      RecipeScaler x = Check.planned("0:1ga=1g@1", "1:1g7=1g");
      x.substitute(0, 1, 1, 1, 0, 0);
      x.stock(1, 1);
      x.possible(1, 0);
      CHECK.isTrue("found by " + name, call(x, name, true) >= 0);
      CHECK.due("behind " + name, x.reason(), 1);
      x = Check.planned("0:1ma=1g@1", "1:1g7=1g");
      x.substitute(0, 1, 1, 1, 0, 0);
      x.possible(1, 0);
      if (!name.equals("buy")) {
        CHECK.isTrue("a wrong argument of " + name, call(x, name, false) < 0);
        CHECK.due("behind a wrong argument of " + name, x.reason(), 1);
      }
      x = Check.with("0:1ma=1g", "1:1g7=1g");
      x.possible(1, 0);
      if (!name.equals("scale")) {
        CHECK.isTrue("no plan for " + name, call(x, name, true) < 0);
        CHECK.due("behind " + name + " without a plan", x.reason(), 1);
      }
    }
    RecipeScaler x = Check.planned("0:1/77g1=1g", "1:1/247ga=1g", "2:1ma=1g");
    x.stock(0, 52579);
    CHECK.due("too great in possible alone", Check.possible(x, 0), "NO");
    CHECK.due("is no reason", x.reason(), -5);
    CHECK.due("wrong arguments of possible", x.possible(2, 2) + x.possible(8, 0), 0);
    CHECK.due("are no reason", x.reason(), -5);
    x.scale(2, 1, 1);
    CHECK.due("reason 4", x.reason(), 4);
    CHECK.due("too great in possible alone", Check.possible(x, 0), "NO");
    CHECK.due("leaves it", x.reason(), 4);
    Check.read(x, "0:1ga=1g");
    CHECK.due("found by possible", Check.possible(x, 0), "52579/1");
    CHECK.due("leaves it as well", x.reason(), 4);
    RecipeScaler y = sumsOfFactors("983");
    CHECK.due("too great in again alone", Check.again(y, 3), "NO");
    CHECK.due("is no reason", y.reason(), -5);
    y.possible(7, 0);
    CHECK.due("too great in again alone", Check.again(y, 3), "NO");
    CHECK.due("leaves it", y.reason(), 1);
  }

  /** 4 is met with 1/991, 1/997, 1/999 and another one; d has the density 0. */
  private static RecipeScaler sumsOfFactors(String yield) {
    RecipeScaler x = Check.with("0:1g1,1g2,1g3,1g5=1g", "1:1g4=991g", "2:1g4=997g", "3:1g4=999g",
        "5:1g4=" + yield + "g", "4:1md=1g");
    x.density(3, 0, 1);
    x.scale(0, 1, 1);
    return x;
  }

  private static void again() {
    CHECK.says("Returns a part of what is needed of an ingredient before the substitutions by a "
        + "second way:");
    RecipeScaler x = Check.with("0:3p2,30g1,1gd=1p", "1:100ga,50gb=120g", "2:60g1,10gc=9p");
    x.substitute(0, 5, 1, 1, 0, 0);
    x.scale(0, 2, 1);
    CHECK.due("a", Check.again(x, 0), "250/3");
    CHECK.due("b", Check.again(x, 1), "125/3");
    CHECK.due("c", Check.again(x, 2), "20/3");
    CHECK.due("d", Check.again(x, 3), "2/1");
    CHECK.due("f is needed only after", Check.again(x, 5), "0/1");

    CHECK.says("the recipe of the plan and all recipes that it contains are gone through, each "
        + "once;");
    RecipeScaler y = Check.planned("7:1ga,1g6,1g5=1g", "6:1gb,1g5=1g", "5:1gc,1g4,1g4=1g",
        "4:1gd=1g", "3:1gd,1g7,1g4=1g");
    int[] due = {1, 1, 2, 4, 0};
    for (int i = 0; i < due.length; i++) {
      CHECK.due("ingredient " + i, Check.again(y, i), due[i] + "/1");
    }
    Check.read(y, "4:1gd,2gd,3gd,4gd,5gd,6gd=1g");
    CHECK.due("six items, each once", Check.again(y, 3), "84/1");
    RecipeScaler z = Check.planned("0:1g1,1g1,1g1,1g1,1g1,1g1=1g", "1:1ga=1g", "2:1g0,1g1=1g");
    CHECK.due("six items with a recipe", Check.again(z, 0), "6/1");
    RecipeScaler eight = Check.planned("4:1g0=1g", "0:1g6=1g", "6:1g1=1g", "1:1g7=1g", "7:1g2=1g",
        "2:1g5=1g", "5:1g3=1g", "3:1gl=1g");
    CHECK.due("eight recipes", Check.again(eight, 11), "1/1");

    CHECK.says("The recipe of the plan has the factor of the plan, all others have 0 at first.");
    y.scale(7, 2, 3);
    CHECK.due("the factor is 2/3", Check.again(y, 0), "2/3");
    CHECK.due("of another one", Check.again(y, 3), "56/1");
    y.scale(5, 1, 1);
    CHECK.due("another recipe", Check.again(y, 0), "0/1");
    CHECK.due("and what it contains", Check.again(y, 3), "42/1");

    CHECK.says("- `ingredient`: the ingredient - `part`: 0 for the numerator, 1 for the denominator");
    CHECK.due("numerator", x.again(2, 0), 20);
    CHECK.due("denominator", x.again(2, 1), 3);

    CHECK.says("Returns the part; NO if there is no such ingredient, part is invalid, there is no "
        + "plan, what is needed cannot be found by the first way, or a fraction is too great by "
        + "this way.");
    for (int i : Check.NO_INGREDIENTS) {
      CHECK.due("again of " + i, x.again(i, 0), RecipeScaler.NO);
    }
    for (int part : Check.NO_PARTS) {
      CHECK.due("part " + part, x.again(0, part), RecipeScaler.NO);
    }
    x.removeRecipe(1);
    CHECK.due("not found", Check.again(x, 3), "NO");
    CHECK.due("its reason", x.reason(), 1);
    CHECK.due("no plan", Check.again(Check.with("0:1ga=1g"), 0), "NO");
    Check.read(z, "1:1g2=1g");
    CHECK.due("a loop", Check.again(z, 0), "NO");
    CHECK.due("its reason", z.reason(), 2);
    CHECK.due("too great by this way", Check.again(sumsOfFactors("983"), 0), "NO");
  }

  private static void againInItsOrder() {
    CHECK.says("of those of which all containing ones among them were gone through, the lowest is "
        + "next.");
    // 0 is the lowest, but it waits for 1, and 1 for 2.
    RecipeScaler x = Check.planned("3:1g0,1g1,1g2=1g", "2:1g1=1g", "1:1g0=1g", "0:1ga=1g",
        "4:1g0,1g3=1g");
    CHECK.due("each waits for those that contain it", Check.again(x, 0), "3/1");
    // 4 is not among them, though it contains them.
    CHECK.due("first way", Check.needed(x, 0, 0), "3/1");
    // The factor of 4 is 1/1982 and 1981/1982 and 1/996003: the last one has to come last.
    RecipeScaler y = Check.with("0:1g1,1g3,1g2=1g", "1:1/2g4=991g", "2:283/2g4=991/7g",
        "3:1/997g4=999g", "4:1md=1g");
    y.density(3, 0, 1);
    y.scale(0, 1, 1);
    CHECK.due("1, 2 and 3", Check.again(y, 3), "0/1");
    Check.read(y, "2:1/997g4=999g");
    Check.read(y, "3:283/2g4=991/7g");
    CHECK.due("1, 3 and 2 would do", Check.again(y, 3), "NO");
    CHECK.due("first way", Check.needed(y, 3, 0), "0/1");
    // The same with the sums of an ingredient: first way 0, 2, 1, second way 0, 1, 2.
    RecipeScaler z = Check.with("0:1/991pa,1g2,1g1=1g", "2:283/991pa=1/7g", "1:1/997ga=999g");
    z.weight(0, 1, 2);
    z.scale(0, 1, 1);
    CHECK.due("first way", Check.needed(z, 0, 0), "996004/996003");
    CHECK.due("second way", Check.again(z, 0), "NO");
    Check.read(z, "1:283/991pa=1/7g");
    Check.read(z, "2:1/997ga=999g");
    Check.read(z, "0:1/991pa,1g1,1g2=1g");
    CHECK.due("second way, the other way round", Check.again(z, 0), "996004/996003");
  }

  private static void againTooGreat() {
    CHECK.says("Going through a recipe means, for each item in its order: its amount times the "
        + "factor of the recipe is found; for a recipe it is divided by its yield and added to its "
        + "factor, for an ingredient it is multiplied by the grams of its unit and added to what "
        + "was found for it.");
    CHECK.due("four factors add up to one that is too great",
        Check.again(sumsOfFactors("983"), 3), "NO");
    CHECK.due("and here they do not", Check.again(sumsOfFactors("991"), 3), "0/1");
    // d has the density 0. The two factors of 1 add up to 1500000, so that only the second way
    // finds something too great where that is multiplied by 999 or divided by 1/999.
    String plan = "0:500g1,500g1=1g";
    bySecondWay("a product, of an ingredient", false, plan, "1:999md=1g");
    bySecondWay("a lesser one", true, plan, "1:500md=1g");
    bySecondWay("a product, of a recipe", false, plan, "1:999g2=1g", "2:1md=999g");
    bySecondWay("a lesser one", true, plan, "1:500g2=1g", "2:1md=999g");
    bySecondWay("a quotient", false, plan, "1:1g2=1g", "2:1/999md=1/999g");
    bySecondWay("a lesser one", true, plan, "1:1g2=1g", "2:1/999md=1/500g");
    bySecondWay("a sum of factors", false, plan, "1:1md=1/999g");
    bySecondWay("a lesser one", true, plan, "1:1md=1/500g");
    RecipeScaler x = Check.planned("0:2m1,3pb=1g", "1:5ma,7pa=4m");
    x.density(0, 1, 2);
    x.weight(0, 1, 3);
    x.weight(1, 2, 3);
    CHECK.due("grams of millilitres and pieces", Check.again(x, 0), "29/12");
    CHECK.due("grams of pieces", Check.again(x, 1), "2/1");
  }

  /** A plan whose factors are added up by the second way alone. */
  private static void bySecondWay(String what, boolean found, String... texts) {
    RecipeScaler x = Check.with(texts);
    x.density(3, 0, 1);
    CHECK.due("first way, " + what, x.scale(0, 1500, 1), 1);
    CHECK.due("second way, " + what, Check.again(x, 3), found ? "0/1" : "NO");
    CHECK.due("no reason, " + what, x.reason(), -5);
  }

  private static void possible() {
    CHECK.says("Returns how much of a recipe could be made of the stock alone, without "
        + "substitutions: the greatest number of yields, as a fraction. - `recipe`: the recipe");
    RecipeScaler x = Check.with("7:3ga,2gb,1mc=5g", "1:1g7,1gd=1g", "2:1mc=1g");
    x.density(2, 0, 1);
    CHECK.due("nothing in stock", Check.possible(x, 7), "0/1");
    x.stock(0, 10);
    CHECK.due("nothing of b", Check.possible(x, 7), "0/1");
    x.stock(1, 7);
    CHECK.due("10/3 of a, 7/2 of b", Check.possible(x, 7), "10/3");
    x.stock(0, 12);
    CHECK.due("12/3 of a, 7/2 of b", Check.possible(x, 7), "7/2");
    x.stock(3, 1);
    CHECK.due("through another recipe", Check.possible(x, 1), "1/1");
    x.substitute(0, 1, 1, 1, 0, 0);
    x.substitute(3, 2, 1, 1, 0, 0);
    CHECK.due("without substitutions", Check.possible(x, 1), "1/1");
    x.scale(2, 5, 1);
    CHECK.due("whatever the plan is", Check.possible(x, 7), "7/2");
    x.pack(0, 1, 1);
    x.pack(1, 1, 1);
    CHECK.due("of the stock alone", Check.possible(x, 7), "7/2");
    RecipeScaler y = Check.with("0:1gj,1gk,1gl=1g");
    y.stock(9, 3);
    y.stock(10, 2);
    y.stock(11, 1);
    CHECK.due("also of the last ingredient", Check.possible(y, 0), "1/1");
    y.stock(11, 999999);
    y.stock(10, 999999);
    y.stock(9, 999998);
    CHECK.due("great stocks", Check.possible(y, 0), "999998/1");

    CHECK.says("- `part`: 0 for the numerator, 1 for the denominator");
    CHECK.due("numerator", x.possible(7, 0), 7);
    CHECK.due("denominator", x.possible(7, 1), 2);
  }

  private static void possibleNot() {
    CHECK.says("Returns the part; NO if there is no such number, part is invalid, what the recipe "
        + "needs with the factor 1 cannot be found, or the quotient of a stock and what is needed "
        + "of it is too great for any ingredient that is needed, or nothing is needed.");
    RecipeScaler x = Check.with("0:1/77g1=1g", "1:1/247ga,1gb=1g", "2:1mc=1g", "3:1ma=1g",
        "4:1/247gl,1gb=77g", "5:1/500ga=1g");
    for (int r : Check.NO_RECIPES) {
      CHECK.due("possible " + r, x.possible(r, 0), RecipeScaler.NO);
    }
    for (int part : Check.NO_PARTS) {
      CHECK.due("part " + part, x.possible(5, part), RecipeScaler.NO);
    }
    CHECK.due("missing", Check.possible(x, 6), "NO");
    CHECK.due("a density is unknown", Check.possible(x, 3), "NO");
    x.density(2, 0, 1);
    CHECK.due("nothing is needed", Check.possible(x, 2), "NO");
    x.density(2, 1, 1);
    CHECK.due("something is", Check.possible(x, 2), "0/1");
    // 1/19019 of a is needed, and 1/77 of b.
    x.stock(0, 52578);
    x.stock(1, 1);
    CHECK.due("b is less", Check.possible(x, 0), "77/1");
    x.stock(0, 52579);
    CHECK.due("a is too great, though b is less", Check.possible(x, 0), "NO");
    x.stock(1, 0);
    CHECK.due("though b is 0", Check.possible(x, 0), "NO");
    x.stock(11, 999999);
    CHECK.due("of l 1/247 is needed", Check.possible(x, 4), "0/1");
    // The factor is 1, so that a plan's factor does not make it too great.
    x.scale(5, 9999, 1);
    CHECK.due("500 times 52579", Check.possible(x, 5), 500 * 52579 + "/1");
    RecipeScaler y = Check.with("0:997g1=1g", "1:991g2=1g", "2:983ga=1g", "3:1g0,1ga=1g");
    y.stock(0, 999999);
    CHECK.due("997 times 991 times 983", Check.possible(y, 0), "999999/971230541");
    Check.read(y, "0:997g1=1/2g");
    CHECK.due("needed is too great", Check.possible(y, 3), "NO");
    CHECK.due("its reason", y.reason(), 5);
  }
}
