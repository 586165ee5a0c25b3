/** Promises 13, 14, 18 to 20, 25 and 26: plans, what is needed, and the reasons of refusals. */
public final class NeedsTest {
  private static final Check CHECK = new Check("NeedsTest");

  public static void main(String[] args) {
    scale();
    pan();
    needed();
    neededOfInnerRecipes();
    reasons();
    reasonsInTheirOrder();
    reasonOfTooGreat();
    reasonOfTooManyItems();
    allRecipesInOneAnother();
    reasonIsKept();
    applied();
    conditions();
    substitutionsTooGreat();
    again();
    againTooGreat();
    possible();
    possibleNot();
    CHECK.end();
  }

  private static void need(RecipeScaler x, int ingredient, int isAfter, long up, long down) {
    String call = "needed(" + ingredient + ", " + isAfter + ", ";
    CHECK.due(call + "0)", x.needed(ingredient, isAfter, 0), up);
    CHECK.due(call + "1)", x.needed(ingredient, isAfter, 1), down);
  }

  private static void scale() {
    RecipeScaler x = Check.with("0:3ga=1g", "1:3mb=1g");
    CHECK.due("scale", x.scale(0, 6, 4), 1);
    CHECK.due("the plan's recipe", x.count(5), 0);
    CHECK.due("its factor, up", x.count(6), 3);
    CHECK.due("its factor, down", x.count(7), 2);
    need(x, 0, 0, 9, 2);
    CHECK.due("scale what can't be found", x.scale(1, 9999, 1), 0);
    CHECK.due("is a plan as well", x.count(5), 1);
    CHECK.due("with its factor", x.count(6), 9999);
    CHECK.due("and a reason", x.reason(), 4);
    CHECK.due("changes", x.count(4), 4);
    for (int r : Check.NO_RECIPES) {
      CHECK.due("scale " + r, x.scale(r, 0, 0), RecipeScaler.NONE);
    }
    CHECK.due("scale a missing one", x.scale(7, 0, 0), RecipeScaler.STATE);
    for (int part : new int[] {0, -1, 10000, Integer.MIN_VALUE, Integer.MAX_VALUE}) {
      CHECK.due("scale up " + part, x.scale(0, part, 1), RecipeScaler.BAD);
      CHECK.due("scale down " + part, x.scale(0, 1, part), RecipeScaler.BAD);
    }
    CHECK.due("the plan is left", x.count(5), 1);
    CHECK.due("no changes", x.count(4), 4);
    CHECK.due("scale by the least", x.scale(0, 1, 9999), 1);
    need(x, 0, 0, 1, 3333);
  }

  private static void pan() {
    RecipeScaler x = Check.with("0:3ga=2g@500", "1:1ga=1g", "2:1mb=1g@1");
    CHECK.due("pan", x.pan(0, 750), 1);
    CHECK.due("the plan's recipe", x.count(5), 0);
    CHECK.due("its factor, up", x.count(6), 3);
    CHECK.due("its factor, down", x.count(7), 2);
    need(x, 0, 0, 9, 2);
    CHECK.due("pan 9999", x.pan(2, 9999), 0);
    CHECK.due("pan's reason", x.reason(), 4);
    CHECK.due("its factor", x.count(6), 9999);
    CHECK.due("changes", x.count(4), 5);
    for (int r : Check.NO_RECIPES) {
      CHECK.due("pan of " + r, x.pan(r, 0), RecipeScaler.NONE);
    }
    CHECK.due("pan of a missing one", x.pan(7, 0), RecipeScaler.STATE);
    CHECK.due("no pan", x.pan(1, 0), RecipeScaler.STATE);
    for (int area : new int[] {0, -1, 10000, Integer.MIN_VALUE, Integer.MAX_VALUE}) {
      CHECK.due("pan " + area, x.pan(0, area), RecipeScaler.BAD);
    }
    CHECK.due("no changes", x.count(4), 5);
    CHECK.due("pan 1", x.pan(0, 1), 1);
    CHECK.due("its factor, down", x.count(7), 500);
    Check.read(x, "0:3ga=2g@9");
    CHECK.due("the factor stays when the pan changes", x.count(7), 500);
  }

  private static void needed() {
    RecipeScaler x = Check.with("0:1/2ga,3mb,2pc,1/3ga=1g");
    CHECK.due("no plan", x.needed(0, 0, 0), RecipeScaler.NO);
    CHECK.due("no plan, no reason", x.reason(), -5);
    x.density(1, 3, 2);
    x.weight(2, 55, 10);
    x.scale(0, 2, 1);
    need(x, 0, 0, 5, 3);
    need(x, 1, 0, 9, 1);
    need(x, 2, 0, 22, 1);
    need(x, 3, 0, 0, 1);
    need(x, 11, 1, 0, 1);
    x.substitute(0, 1, 3, 1, 0, 0);
    need(x, 0, 0, 5, 3);
    need(x, 0, 1, 0, 1);
    need(x, 1, 0, 9, 1);
    need(x, 1, 1, 14, 1);
    for (int i : Check.NO_INGREDIENTS) {
      CHECK.due("needed of " + i, x.needed(i, 0, 0), RecipeScaler.NO);
    }
    for (int wrong : Check.NO_PARTS) {
      CHECK.due("isAfter " + wrong, x.needed(0, wrong, 0), RecipeScaler.NO);
      CHECK.due("part " + wrong, x.needed(0, 0, wrong), RecipeScaler.NO);
    }
    x.density(1, 1, 1);
    need(x, 1, 0, 6, 1);
    CHECK.due("needed is no change", x.count(4), 6);
  }

  private static void neededOfInnerRecipes() {
    // Recipe 2 yields 8 pieces of 6 a and 2 of recipe 1, which yields 1/2 ml of 5 b.
    RecipeScaler x = Check.with("1:5gb=1/2m", "2:6ga,2m1=8p", "0:4p2,1m1,1p2=3g");
    CHECK.due("scale", x.scale(0, 1, 3), 1);
    need(x, 0, 0, 5, 4);
    need(x, 1, 0, 15, 2);
    CHECK.due("the yield of the plan's recipe does not matter", x.recipe(0, 1), 3);
    Check.read(x, "1:5gc=1/2m");
    need(x, 1, 0, 0, 1);
    need(x, 2, 0, 15, 2);
  }

  private static void reasons() {
    String[] texts = {"0:1g1=1g", "0:1g0=1g", "0:1ma=1g", "0:1pa=1g", "0:1ga=1g"};
    int[] due = {1, 2, 4, 4, -5};
    for (int i = 0; i < texts.length; i++) {
      RecipeScaler x = Check.with(texts[i]);
      CHECK.due("scale " + texts[i], x.scale(0, 1, 1), due[i] > 0 ? 0 : 1);
      CHECK.due("reason of " + texts[i], x.reason(), due[i]);
      CHECK.due("needed by " + texts[i], x.needed(0, 0, 1), due[i] > 0 ? RecipeScaler.NO : 1);
    }
    RecipeScaler x = Check.with("0:1g1=1g", "1:1g2=1g", "2:1g1=1g");
    x.scale(0, 1, 1);
    CHECK.due("a loop below the plan", x.reason(), 2);
    Check.read(x, "1:1ga=1m");
    x.scale(0, 1, 1);
    CHECK.due("another unit", x.reason(), 3);
    Check.read(x, "1:1ga=1g");
    CHECK.due("found", x.scale(0, 1, 1), 1);
    CHECK.due("a reason stays", x.reason(), 3);
    x.removeRecipe(0);
    CHECK.due("the plan's recipe is missing", x.needed(1, 1, 1), RecipeScaler.NO);
    CHECK.due("its reason", x.reason(), 1);
  }

  private static void reasonsInTheirOrder() {
    String[][] cases = {
        {"2", "0:1m0=1g"}, {"2", "0:1g0,1g7=1g"}, {"1", "0:1g7,1g0=1g"}, {"4", "0:1mb,1g7=1g"},
        {"1", "0:1g7,1mb=1g"}, {"3", "0:1p1,1g7=1g", "1:1ga=1g"},
        {"4", "0:1g1,1g7=1g", "1:1pa=1g"}, {"1", "0:1g1,1pa=1g", "1:1g7=1g"},
        {"2", "0:1g1=1g", "1:1m0=1g"}, {"3", "0:999g1=1g", "1:999m2=1g", "2:1ga=1g"},
        {"2", "0:999g1=1g", "1:999m1=1g"}, {"1", "0:999g1=1g", "1:999m7=1g"},
        {"4", "0:999g1=1g", "1:999mb=1g"}, {"5", "0:999g1=1g", "1:999gb,1g7=1g"},
        {"5", "0:999g1=1g", "1:999g2=1g", "2:1mb=1g"}};
    for (String[] row : cases) {
      RecipeScaler x = new RecipeScaler();
      for (int i = 1; i < row.length; i++) {
        Check.read(x, row[i]);
      }
      CHECK.due("scale " + row[1], x.scale(0, 9999, 1), 0);
      CHECK.due("the reason of " + row[1], x.reason(), row[0].charAt(0) - '0');
    }
  }

  private static void reasonOfTooGreat() {
    RecipeScaler x = Check.with("0:500g1=1g", "1:400ga=1g", "2:1/500g3=1g", "3:1/400ga=1g");
    CHECK.due("a numerator of 10^9", x.scale(0, 5000, 1), 1);
    need(x, 0, 0, 1000000000L, 1);
    CHECK.due("above", x.scale(0, 5001, 1), 0);
    CHECK.due("its reason", x.reason(), 5);
    CHECK.due("a denominator of 10^9", x.scale(2, 1, 5000), 1);
    need(x, 0, 0, 1, 1000000000L);
    CHECK.due("above", x.scale(2, 1, 5001), 0);
    CHECK.due("in lowest terms", x.scale(2, 5001, 5001), 1);
    need(x, 0, 0, 1, 200000);
    Check.read(x, "1:400ga,1/3ga=1g");
    CHECK.due("a sum above", x.scale(0, 5000, 1), 0);
    CHECK.due("a sum below", x.scale(0, 1000, 1), 1);
    Check.read(x, "1:400ga,1gb=1g");
    CHECK.due("sums of two ingredients", x.scale(0, 5000, 1), 1);
    // The product with the factor is too great, though the yield would make it small again.
    RecipeScaler y = Check.with("0:999g1=1g", "1:999g2=1g", "2:1ga=999g");
    CHECK.due("a product on the way", y.scale(0, 9999, 1), 0);
    CHECK.due("its reason", y.reason(), 5);
    Check.read(y, "0:1g1=999g");
    Check.read(y, "1:1g2=999g");
    Check.read(y, "2:1ga=999g");
    CHECK.due("a quotient's denominator", y.scale(0, 1, 9999), 0);
    CHECK.due("a quotient's denominator below", y.scale(0, 1, 1000), 1);
    // The amount is multiplied ahead of the density, which would make it small again.
    RecipeScaler z = Check.with("0:999g1=1g", "1:999ma=1/2g");
    z.density(0, 1, 9999);
    CHECK.due("a product ahead of the density", z.scale(0, 9999, 1), 0);
    CHECK.due("below", z.scale(0, 400, 1), 1);
    z.density(0, 0, 1);
    CHECK.due("also ahead of a density of 0", z.scale(0, 9999, 1), 0);
    z.density(0, 9999, 1);
    CHECK.due("a product with the density", z.scale(0, 400, 1), 0);
  }

  private static void reasonOfTooManyItems() {
    // Gone through: 6 for recipe 2, 42 for 1, 258 for 0, 36 for 6, 1 for 7.
    RecipeScaler x = Check.with("2:1ga,1ga,1ga,1ga,1ga,1ga=1g", "1:1g2,1g2,1g2,1g2,1g2,1g2=1g",
        "0:1g1,1g1,1g1,1g1,1g1,1g1=1g", "6:1g2,1g2,1g2,1g2,1g2,1ga=1g", "7:1ga=1g",
        "3:1g0,1g6,1ga,1ga,1ga,1ga=1g", "4:1g0,1g6,1ga,1ga,1ga,1g7=1g");
    CHECK.due("300 items", x.scale(3, 1, 1), 1);
    need(x, 0, 0, 216 + 31 + 4, 1);
    CHECK.due("301 items", x.scale(4, 1, 1), 0);
    CHECK.due("their reason", x.reason(), 6);
    Check.read(x, "4:1g0,1g6,1ga,1ga,1g7,1g5=1g");
    x.scale(4, 1, 1);
    CHECK.due("6 is looked at ahead of 1", x.reason(), 6);
    Check.read(x, "4:1g0,1g6,1ga,1ga,1g7,1mb=1g");
    x.scale(4, 1, 1);
    CHECK.due("6 is looked at ahead of 4", x.reason(), 6);
    Check.read(x, "4:1g0,1g6,1ga,1ga,1ga,1g5=1g");
    x.scale(4, 1, 1);
    CHECK.due("the 300th has its own reason", x.reason(), 1);
  }

  private static void allRecipesInOneAnother() {
    RecipeScaler x = Check.with("7:1g6=1g", "6:1g5=1g", "5:1g4=1g", "4:1g3=1g", "3:1g2=1g",
        "2:1g1=1g", "1:2g0=1g", "0:3gl=4g");
    CHECK.due("eight recipes deep", x.scale(7, 1, 1), 1);
    need(x, 11, 0, 3, 2);
    CHECK.due("by the second way", x.again(11, 0) * 10 + x.again(11, 1), 32);
    Check.read(x, "0:3gl,1g7=4g");
    CHECK.due("a loop of eight", x.scale(7, 1, 1), 0);
    CHECK.due("its reason", x.reason(), 2);
  }

  private static void reasonIsKept() {
    RecipeScaler x = Check.with("0:1g7=1g", "1:1g1=1g", "2:1ga=1g");
    CHECK.due("possible 0", x.possible(0, 0), RecipeScaler.NO);
    CHECK.due("by possible", x.reason(), 1);
    x.scale(1, 1, 1);
    CHECK.due("by scale", x.reason(), 2);
    CHECK.due("by possible", x.possible(7, 0), RecipeScaler.NO);
    CHECK.due("a missing recipe", x.reason(), 1);
    String[] calls = {"needed", "applied", "shopping", "account", "risk", "again", "buy"};
    for (String call : calls) {
      x.possible(0, 0);
      CHECK.due("ahead of " + call, x.reason(), 1);
      ask(x, call, true);
      CHECK.due("a wrong argument of " + call, x.reason(), call.equals("buy") ? 2 : 1);
      ask(x, call, false);
      CHECK.due("by " + call, x.reason(), call.equals("applied") ? 1 : 2);
    }
    x.substitute(0, 1, 1, 1, 0, 0);
    x.possible(0, 0);
    x.applied(0, 3);
    CHECK.due("a wrong part of applied", x.reason(), 1);
    x.applied(0, 0);
    CHECK.due("by applied", x.reason(), 2);
    x.possible(0, 0);
    x.path(0, 0);
    CHECK.due("not by path", x.reason(), 1);
    x.possible(8, 0);
    x.possible(0, 2);
    x.back();
    x.image();
    x.undo();
    CHECK.due("not by others", x.reason(), 1);
    CHECK.due("found", x.scale(2, 1, 1), 1);
    CHECK.due("and stays", x.reason(), 1);
  }

  private static void ask(RecipeScaler x, String call, boolean wrong) {
    switch (call) {
      case "needed":
        x.needed(wrong ? 12 : 0, 0, 0);
        break;
      case "applied":
        x.applied(0, 0);
        break;
      case "shopping":
        x.shopping(0, wrong ? 10 : 0);
        break;
      case "account":
        x.account(wrong ? 5 : 4);
        break;
      case "risk":
        x.risk(wrong ? 2 : 1);
        break;
      case "again":
        x.again(0, wrong ? 2 : 1);
        break;
      default:
        x.buy();
    }
  }

  private static void apply(RecipeScaler x, int number, long holds, long up, long down) {
    String call = "applied(" + number + ", ";
    CHECK.due(call + "0)", x.applied(number, 0), holds);
    CHECK.due(call + "1)", x.applied(number, 1), up);
    CHECK.due(call + "2)", x.applied(number, 2), down);
  }

  private static void applied() {
    RecipeScaler x = Check.with("0:1/3ga,2gb=1g");
    x.substitute(0, 1, 1, 1, 0, 0);
    CHECK.due("no plan", x.applied(0, 0), RecipeScaler.NO);
    x.scale(0, 2, 1);
    apply(x, 0, 1, 2, 3);
    x.substitute(1, 2, 3, 2, 2, 4);
    apply(x, 1, 1, 14, 3);
    need(x, 2, 1, 7, 1);
    x.substitute(0, 5, 1, 1, 0, 0);
    apply(x, 2, 1, 0, 1);
    x.substitute(3, 5, 1, 1, 2, 0);
    apply(x, 3, 0, 0, 1);
    for (int wrong : new int[] {-1, 4, 6, Integer.MIN_VALUE, Integer.MAX_VALUE}) {
      CHECK.due("applied of " + wrong, x.applied(wrong, 0), RecipeScaler.NO);
    }
    for (int wrong : new int[] {-1, 3, Integer.MIN_VALUE, Integer.MAX_VALUE}) {
      CHECK.due("applied part " + wrong, x.applied(0, wrong), RecipeScaler.NO);
    }
    Check.read(x, "0:1g1=1g");
    CHECK.due("not found", x.applied(0, 0), RecipeScaler.NO);
  }

  private static void conditions() {
    RecipeScaler x = Check.with("0:5/2ga=1g");
    x.scale(0, 2, 1);
    x.substitute(0, 1, 1, 2, 1, 3);
    apply(x, 0, 0, 0, 1);
    x.allergens(0, 0, 8);
    apply(x, 0, 1, 5, 1);
    need(x, 1, 1, 5, 2);
    x.allergens(0, 8, 0);
    apply(x, 0, 1, 5, 1);
    x.allergens(0, 247, 247);
    apply(x, 0, 0, 0, 1);
    x.removeSubstitution(0);

    x.substitute(0, 1, 1, 1, 2, 5);
    apply(x, 0, 0, 0, 1);
    need(x, 0, 1, 5, 1);
    Check.read(x, "0:501/200ga=1g");
    apply(x, 0, 1, 501, 100);
    need(x, 0, 1, 0, 1);
    x.removeSubstitution(0);

    x.substitute(0, 1, 2, 1, 3, 0);
    x.stock(0, 5);
    apply(x, 0, 1, 1, 100);
    need(x, 0, 1, 5, 1);
    need(x, 1, 1, 1, 50);
    x.stock(0, 6);
    apply(x, 0, 0, 0, 1);
    x.stock(0, 0);
    apply(x, 0, 1, 501, 100);
    Check.read(x, "0:5/2ga=1g");
    x.stock(0, 5);
    apply(x, 0, 0, 0, 1);
    need(x, 0, 1, 5, 1);

    // Each condition is looked at behind the earlier substitutions.
    x.stock(0, 3);
    x.substitute(1, 0, 1, 1, 2, 3);
    x.substitute(0, 2, 1, 1, 2, 6);
    apply(x, 0, 1, 2, 1);
    apply(x, 1, 1, 4, 1);
    apply(x, 2, 1, 7, 1);
    need(x, 2, 1, 7, 1);
    need(x, 0, 1, 0, 1);
    need(x, 1, 1, 0, 1);
    need(x, 0, 0, 5, 1);
  }

  private static void substitutionsTooGreat() {
    RecipeScaler x = Check.with("0:999g1=1g", "1:999ga,100gb=1g");
    CHECK.due("found", x.scale(0, 10, 1), 1);
    x.substitute(0, 1, 100, 1, 0, 0);
    CHECK.due("found with a product", x.needed(1, 1, 0), 999L * 999 * 10 * 100 + 999000);
    x.substitute(2, 3, 1, 1, 0, 0);
    CHECK.due("a product above", x.substitute(1, 0, 2, 1, 0, 0), 2);
    CHECK.due("after", x.needed(0, 1, 0), RecipeScaler.NO);
    CHECK.due("its reason", x.reason(), 5);
    CHECK.due("before", x.needed(0, 0, 0), RecipeScaler.NO);
    CHECK.due("again", x.again(0, 0), RecipeScaler.NO);
    CHECK.due("risk", x.risk(0), RecipeScaler.STATE);
    CHECK.due("account", x.account(0), RecipeScaler.STATE);
    CHECK.due("applied, of an earlier one", x.applied(0, 0), RecipeScaler.NO);
    CHECK.due("scale", x.scale(0, 10, 1), 0);
    CHECK.due("possible is without substitutions", x.possible(0, 0), 0);
    x.removeSubstitution(2);
    CHECK.due("scale", x.scale(0, 10, 1), 1);
    // A product that is not, but a sum that is too great: 998001000 and 9990000.
    RecipeScaler y = Check.with("0:999g1=1g", "1:999ga,10gb=1g");
    y.substitute(0, 1, 1, 1, 0, 0);
    CHECK.due("a sum above", y.scale(0, 1000, 1), 0);
    CHECK.due("its reason", y.reason(), 5);
    CHECK.due("a sum below", y.scale(0, 900, 1), 1);
  }

  private static void again() {
    RecipeScaler x = Check.with("0:3p2,30g1,1gd=1p", "1:100ga,50gb=120g", "2:60g1,10gc=9p");
    CHECK.due("no plan", x.again(0, 0), RecipeScaler.NO);
    x.scale(0, 2, 1);
    for (int i = 0; i < 12; i++) {
      for (int part = 0; part < 2; part++) {
        CHECK.due("again(" + i + ", " + part + ")", x.again(i, part), x.needed(i, 0, part));
      }
    }
    CHECK.due("a, up", x.again(0, 0), 250);
    CHECK.due("a, down", x.again(0, 1), 3);
    CHECK.due("c", x.again(2, 0) * 10 + x.again(2, 1), 203);
    x.substitute(0, 1, 1, 1, 0, 0);
    CHECK.due("before the substitutions", x.again(0, 0), 250);
    for (int i : Check.NO_INGREDIENTS) {
      CHECK.due("again of " + i, x.again(i, 0), RecipeScaler.NO);
    }
    for (int part : Check.NO_PARTS) {
      CHECK.due("again part " + part, x.again(0, part), RecipeScaler.NO);
    }
    Check.read(x, "3:1ga=1g");
    CHECK.due("a recipe that is not contained does not matter", x.again(0, 0), 250);
    x.removeRecipe(1);
    CHECK.due("a missing recipe", x.again(0, 0), RecipeScaler.NO);
    CHECK.due("its reason", x.reason(), 1);
    CHECK.due("again is no change", x.count(4), 7);
  }

  private static void againTooGreat() {
    // The density of d is 0, so that the first way finds 0 of it, however small the factors are.
    RecipeScaler x = Check.with("0:1g1,1g2,1g3,1g5=1g", "1:1g4=991g", "2:1g4=997g", "3:1g4=999g",
        "5:1g4=983g", "4:1md=1g");
    x.density(3, 0, 1);
    CHECK.due("the first way", x.scale(0, 1, 1), 1);
    CHECK.due("finds 0", x.needed(3, 0, 0), 0);
    CHECK.due("a sum of factors is too great", x.again(3, 0), RecipeScaler.NO);
    CHECK.due("for each ingredient", x.again(11, 1), RecipeScaler.NO);
    CHECK.due("that is no reason", x.reason(), -5);
    Check.read(x, "5:1g4=991g");
    CHECK.due("lesser sums are not", x.again(3, 0), 0);
    // The factor of 4 is 1/1982 plus 1981/1982 plus 1/996003; the last one has to be added last.
    Check.read(x, "0:1g1,1g3,1g2=1g");
    Check.read(x, "1:1/2g4=991g");
    Check.read(x, "2:283/2g4=991/7g");
    Check.read(x, "3:1/997g4=999g");
    CHECK.due("the lowest is next", x.again(3, 1), 1);
    Check.read(x, "2:1/997g4=999g");
    Check.read(x, "3:283/2g4=991/7g");
    CHECK.due("also where another order would do", x.again(3, 1), RecipeScaler.NO);
    CHECK.due("the first way finds it", x.needed(3, 1, 1), 1);
    CHECK.due("no reason", x.reason(), -5);
  }

  private static void possible() {
    RecipeScaler x = Check.with("0:3ga,2gb,1mc=5g", "1:1g0,1gd=1g", "2:1mc=1g");
    x.density(2, 0, 1);
    CHECK.due("nothing in stock, up", x.possible(0, 0), 0);
    CHECK.due("nothing in stock, down", x.possible(0, 1), 1);
    x.stock(0, 10);
    x.stock(1, 7);
    CHECK.due("least of 10/3 and 7/2, up", x.possible(0, 0), 10);
    CHECK.due("least of 10/3 and 7/2, down", x.possible(0, 1), 3);
    x.stock(0, 12);
    CHECK.due("least of 12/3 and 7/2", x.possible(0, 0) * 10 + x.possible(0, 1), 72);
    x.stock(3, 1);
    CHECK.due("with a recipe", x.possible(1, 0) * 10 + x.possible(1, 1), 11);
    x.scale(1, 1, 1);
    x.substitute(0, 3, 1, 1, 0, 0);
    CHECK.due("plan and substitutions do not matter", x.possible(0, 0), 7);
    CHECK.due("nothing is needed", x.possible(2, 0), RecipeScaler.NO);
    CHECK.due("that is no reason", x.reason(), -5);
  }

  private static void possibleNot() {
    RecipeScaler x = Check.with("0:1/999g1=1g", "1:1/999ga,1gb=2g", "2:1ma=1g");
    for (int r : Check.NO_RECIPES) {
      CHECK.due("possible " + r, x.possible(r, 0), RecipeScaler.NO);
    }
    for (int part : Check.NO_PARTS) {
      CHECK.due("possible part " + part, x.possible(0, part), RecipeScaler.NO);
    }
    CHECK.due("no reason", x.reason(), -5);
    CHECK.due("not found", x.possible(2, 0), RecipeScaler.NO);
    CHECK.due("its reason", x.reason(), 4);
    CHECK.due("missing", x.possible(3, 1), RecipeScaler.NO);
    CHECK.due("its reason", x.reason(), 1);
    // 1/1996002 of a is needed and 1/1998 of b.
    x.stock(0, 501);
    CHECK.due("the quotient of b", x.possible(0, 0), 0);
    x.stock(1, 1);
    CHECK.due("501 times 1996002 is not too great", x.possible(0, 0), 1998);
    x.stock(0, 502);
    CHECK.due("502 times 1996002 is, though b is less", x.possible(0, 0), RecipeScaler.NO);
    CHECK.due("that keeps no reason", x.reason(), 1);
    x.stock(1, 0);
    CHECK.due("also if b is 0", x.possible(0, 0), RecipeScaler.NO);
    x.stock(1, 999999);
    x.stock(0, 1);
    CHECK.due("b's is too great", x.possible(0, 0), RecipeScaler.NO);
  }
}
