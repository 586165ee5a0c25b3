/** The words on shopping, and on promises 15, 21 and 22. */
public final class ShoppingBoundsTest {
  private static final Check CHECK = new Check("ShoppingBoundsTest");
  private static final int[] NO_WHATS = {-1, 4, 5, 9, Integer.MIN_VALUE, Integer.MAX_VALUE};

  public static void main(String[] args) {
    lack();
    leastWaste();
    leastPrice();
    fewestPacks();
    mostOfTheFirst();
    allSmallChoices();
    greatChoices();
    lackAbove5000();
    shopping();
    shoppingWithoutLack();
    shoppingErrors();
    account();
    accountErrors();
    buy();
    buyAfterSubstitutions();
    buyRemovesThePlan();
    buyErrors();
    greatestStocks();
    CHECK.end();
  }

  /** Tests the packs that are bought for a lack, from packs by size and price. */
  private static void bought(int lack, int[] packs, int... numbers) {
    RecipeScaler x = Check.lacking(lack, packs);
    StringBuilder call = new StringBuilder().append(lack).append(" of");
    int price = 0;
    int grams = 0;
    for (int k = 0; k < numbers.length; k++) {
      call.append(' ').append(packs[2 * k]).append(" for ").append(packs[2 * k + 1]);
      grams += numbers[k] * packs[2 * k];
      price += numbers[k] * packs[2 * k + 1];
    }
    for (int k = 0; k < numbers.length; k++) {
      CHECK.due(call + ": pack " + k, x.shopping(0, 10 + k), numbers[k]);
    }
    CHECK.due(call + ": waste", x.shopping(0, 1), grams - lack);
    CHECK.due(call + ": price", x.shopping(0, 2), price);
    CHECK.due(call + ": grams", x.shopping(0, 3), grams);
    CHECK.due(call + ": price of all", x.account(0), price);
    CHECK.due(call + ": waste of all", x.account(1), grams - lack);
    CHECK.due(call + ": grams of all", x.account(2), grams);
  }

  private static int[] packs(int... sizesAndPrices) {
    return sizesAndPrices;
  }

  private static void lack() {
    CHECK.says("The lack of an ingredient is what is needed of it after the substitutions, minus "
        + "its stock, rounded up to whole grams, and 0 if this is not positive.");
    RecipeScaler x = Check.with("0:1ga=1g");
    int[][] due = {{1, 1, 1}, {9999, 9998, 2}, {9998, 9999, 1}, {1, 9999, 1}, {3, 2, 2}, {2, 1, 2},
        {9999, 1, 9999}};
    for (int[] row : due) {
      x.scale(0, row[0], row[1]);
      CHECK.due("lack of " + row[0] + "/" + row[1], x.shopping(0, 0), row[2]);
    }
    x.scale(0, 7, 2);
    int[] lacks = {4, 3, 2, 1, 0, 0};
    for (int stock = 0; stock < lacks.length; stock++) {
      x.stock(0, stock);
      CHECK.due("lack of 7/2 with " + stock, x.shopping(0, 0), lacks[stock]);
    }
    x.stock(0, 999999);
    CHECK.due("more than enough", x.shopping(0, 0), 0);
    x.stock(0, 1);
    x.substitute(0, 1, 1, 1, 3, 0);
    CHECK.due("after the substitutions, of x", x.shopping(0, 0), 0);
    CHECK.due("after the substitutions, of y", x.shopping(1, 0), 3);
    CHECK.due("nothing is needed", x.shopping(2, 0), 0);
    x = Check.with("0:500g1=1g", "1:400ga=1g");
    x.scale(0, 5000, 1);
    CHECK.due("the greatest", x.shopping(0, 0), 1000000000);
    x.stock(0, 999999);
    CHECK.due("minus the greatest stock", x.shopping(0, 0), 999000001);
    x.pack(0, 2000, 0);
    CHECK.due("counts as without packs", x.account(4), 1);
  }

  private static void leastWaste() {
    CHECK.says("If it has packs and a lack, so many of each pack are bought that their sizes add up "
        + "to at least the lack, with the least waste, which is what they have above the lack;");
    bought(1, packs(1, 5), 1);
    bought(1, packs(2000, 5), 1);
    bought(5, packs(2, 5), 3);
    bought(6, packs(2, 5), 3);
    bought(7, packs(2, 5), 4);
    bought(10, packs(11, 0, 10, 999), 0, 1);
    bought(12, packs(13, 1, 5, 500, 7, 400), 0, 1, 1);
    bought(11, packs(4, 0, 9, 9), 3, 0);
    bought(43, packs(6, 1, 9, 1, 20, 1), 1, 2, 1);
    bought(2000, packs(1999, 1, 2, 999), 0, 1000);
    bought(2000, packs(1999, 0, 1998, 0, 2000, 999), 0, 0, 1);
  }

  private static void leastPrice() {
    CHECK.says("of several such choices that with the least price;");
    bought(10, packs(10, 50, 5, 20), 0, 2);
    bought(10, packs(10, 39, 5, 20), 1, 0);
    bought(20, packs(10, 50, 5, 20, 15, 65), 0, 4, 0);
    bought(20, packs(10, 50, 5, 36, 15, 65), 2, 0, 0);
    bought(20, packs(10, 50, 5, 34, 15, 65), 0, 1, 1);
    bought(2000, packs(1, 0, 2000, 1), 2000, 0);
  }

  private static void fewestPacks() {
    CHECK.says("of these that with the fewest packs;");
    bought(10, packs(10, 40, 5, 20), 1, 0);
    bought(10, packs(5, 20, 10, 40), 0, 1);
    bought(10, packs(5, 20, 2, 8, 10, 40), 0, 0, 1);
    bought(2000, packs(1, 0, 2000, 0), 0, 1);
    bought(12, packs(3, 3, 4, 4, 6, 6), 0, 0, 2);
    bought(13, packs(3, 3, 4, 4, 6, 6), 1, 1, 1);
  }

  private static void mostOfTheFirst() {
    CHECK.says("of these the one with the most of pack 0, then of pack 1.");
    bought(10, packs(5, 10, 3, 10, 7, 10), 2, 0, 0);
    bought(10, packs(3, 10, 5, 10, 7, 10), 1, 0, 1);
    bought(10, packs(3, 10, 7, 10, 5, 10), 1, 1, 0);
    bought(10, packs(5, 1, 5, 1, 5, 1), 2, 0, 0);
    bought(10, packs(9, 10, 5, 1, 5, 1), 0, 2, 0);
    bought(13, packs(3, 9, 5, 1, 5, 1), 1, 2, 0);
    bought(5000, packs(1, 999, 1, 999, 1, 999), 5000, 0, 0);
    bought(4999, packs(1, 1, 1, 1, 2, 2), 1, 0, 2499);
    bought(4, packs(1, 0, 2, 0, 3, 0), 1, 0, 1);
  }

  /** Counts up all choices for small lacks and packs, and takes the best one by the words. */
  private static void allSmallChoices() {
    CHECK.says("so many of each pack are bought that their sizes add up to at least the lack, with "
        + "the least waste, which is what they have above the lack; of several such choices that "
        + "with the least price; of these that with the fewest packs; of these the one with the "
        + "most of pack 0, then of pack 1.");
    int[] prices = {0, 1, 3};
    for (int sizes = 0; sizes < 125; sizes++) {
      for (int priced = 0; priced < 27; priced++) {
        int[] packs = packs(1 + sizes % 5, prices[priced % 3], 1 + sizes / 5 % 5,
            prices[priced / 3 % 3], 1 + sizes / 25, prices[priced / 9]);
        for (int lack = 1; lack < 12; lack += 2) {
          bought(lack, packs, best(lack, packs));
        }
      }
    }
    for (int lack = 4998; lack <= 5000; lack++) {
      for (int[] packs : new int[][] {packs(2000, 3, 1999, 2, 1993, 1), packs(700, 9, 90, 7, 31, 5),
          packs(1999, 0, 2000, 0, 1, 1)}) {
        bought(lack, packs, best(lack, packs));
      }
    }
  }

  private static int[] best(int lack, int[] packs) {
    int[] best = null;
    for (int n0 = 0; n0 <= (lack + packs[0] - 1) / packs[0]; n0++) {
      for (int n1 = 0; n1 <= (lack + packs[2] - 1) / packs[2]; n1++) {
        int rest = Math.max(0, lack - n0 * packs[0] - n1 * packs[2]);
        int n2 = (rest + packs[4] - 1) / packs[4];
        int[] choice = {n0, n1, n2};
        if (best == null || isBetter(choice, best, packs)) {
          best = choice;
        }
      }
    }
    return best;
  }

  private static boolean isBetter(int[] a, int[] b, int[] packs) {
    int waste = 0;
    int price = 0;
    int count = 0;
    for (int k = 0; k < 3; k++) {
      waste += (a[k] - b[k]) * packs[2 * k];
      price += (a[k] - b[k]) * packs[2 * k + 1];
      count += a[k] - b[k];
    }
    int first = waste != 0 ? waste : price != 0 ? price : count;
    return first != 0 ? first < 0 : a[0] != b[0] ? a[0] > b[0] : a[1] > b[1];
  }

  private static void greatChoices() {
    CHECK.says("with the least waste, which is what they have above the lack;");
    bought(5000, packs(2000, 999), 3);
    bought(4001, packs(2000, 999), 3);
    bought(4000, packs(2000, 999), 2);
    bought(5000, packs(1, 999), 5000);
    bought(5000, packs(2000, 3, 1999, 0), 0, 3);
    bought(5000, packs(1667, 3, 2000, 0), 3, 0);
    // Waste 1999 is the greatest that there may be.
    bought(2001, packs(2000, 7), 2);
    bought(1, packs(2000, 7, 2000, 6, 2000, 5), 0, 0, 1);
  }

  private static void lackAbove5000() {
    CHECK.says("An ingredient whose lack is above 5000 counts as one without packs, for its lack.");
    RecipeScaler x = Check.lacking(5001, 1, 1, 2000, 1);
    CHECK.due("the lack", x.shopping(0, 0), 5001);
    for (int what : new int[] {1, 2, 3, 10, 11}) {
      CHECK.due("what " + what, x.shopping(0, what), -5);
    }
    CHECK.due("there is no pack 2 in any case", x.shopping(0, 12), RecipeScaler.NONE);
    CHECK.due("price of all", x.account(0), 0);
    CHECK.due("waste of all", x.account(1), 0);
    CHECK.due("grams of all", x.account(2), 0);
    CHECK.due("has a lack", x.account(3), 1);
    CHECK.due("counts as without", x.account(4), 1);
    CHECK.due("buy", x.buy(), RecipeScaler.STATE);
    CHECK.due("its packs are still there", x.count(40), 2);
    x.stock(0, 1);
    CHECK.due("a lack of 5000 does not", x.account(4), 0);
    CHECK.due("its packs", x.shopping(0, 10), 1000);
    CHECK.due("its packs", x.shopping(0, 11), 2);
    CHECK.due("buy", x.buy(), 1002);
    x.scale(0, 5000, 1);
    CHECK.due("needed 5000", x.account(4), 0);
    x.scale(0, 5001, 1);
    CHECK.due("needed 5001", x.account(4), 1);
  }

  private static void shopping() {
    CHECK.says("Returns a number of the shopping for an ingredient. - `ingredient`: the ingredient");
    RecipeScaler x = Check.planned("0:5ga,7gl=1g");
    x.pack(0, 3, 2);
    x.pack(11, 2, 100);
    CHECK.due("of a", x.shopping(0, 2), 4);
    CHECK.due("of l", x.shopping(11, 2), 400);
    CHECK.due("of b", x.shopping(1, 2), 0);

    CHECK.says("- `what`: 0 the lack; 1 the waste; 2 the price; 3 the grams that are bought; "
        + "10 + k the number of the packs k that are bought;");
    x = Check.planned("0:501/2ga=1g");
    x.stock(0, 9);
    x.pack(0, 100, 50);
    x.pack(0, 30, 20);
    x.pack(0, 33, 21);
    // No packs add up to 242, and to 243 only these.
    CHECK.due("lack", x.shopping(0, 0), 242);
    CHECK.due("waste", x.shopping(0, 1), 1);
    CHECK.due("price", x.shopping(0, 2), 161);
    CHECK.due("grams", x.shopping(0, 3), 243);
    CHECK.due("packs 0", x.shopping(0, 10), 0);
    CHECK.due("packs 1", x.shopping(0, 11), 7);
    CHECK.due("packs 2", x.shopping(0, 12), 1);
  }

  private static void shoppingWithoutLack() {
    CHECK.says("0 for all but the lack if there is no lack");
    RecipeScaler x = Check.lacking(3, 2, 1, 3, 1);
    x.stock(0, 3);
    for (int what : new int[] {0, 1, 2, 3, 10, 11}) {
      CHECK.due("just enough, what " + what, x.shopping(0, what), 0);
      CHECK.due("nothing needed, what " + what, x.shopping(1, what),
          what < 10 ? 0 : RecipeScaler.NONE);
    }
    CHECK.due("no such pack", x.shopping(0, 12), RecipeScaler.NONE);
    x.pack(1, 5, 5);
    CHECK.due("nothing needed, its pack", x.shopping(1, 10), 0);
    x.stock(0, 999999);
    CHECK.due("more than enough", x.shopping(0, 0), 0);
    x.stock(0, 2);
    CHECK.due("1 too few", x.shopping(0, 0), 1);
    CHECK.due("is bought", x.shopping(0, 10), 1);
  }

  private static void shoppingErrors() {
    CHECK.says("Returns the number; NONE if there is no such ingredient or pack, or what is invalid; "
        + "STATE if there is no plan, or what is needed cannot be found;");
    RecipeScaler none = new RecipeScaler();
    RecipeScaler x = Check.planned("0:3ga=1g");
    for (int packs = 0; packs <= 3; packs++) {
      for (int what : NO_WHATS) {
        CHECK.due("what " + what, x.shopping(0, what), RecipeScaler.NONE);
        CHECK.due("no plan, what " + what, none.shopping(0, what), RecipeScaler.NONE);
      }
      for (int k = 0; k < 5; k++) {
        int due = k < packs ? RecipeScaler.STATE : RecipeScaler.NONE;
        CHECK.isTrue("pack " + k + " of " + packs,
            k < packs ? x.shopping(0, 10 + k) >= 0 : x.shopping(0, 10 + k) == RecipeScaler.NONE);
        CHECK.due("no plan, pack " + k + " of " + packs, none.shopping(0, 10 + k), due);
      }
      x.pack(0, 3, 1);
      none.pack(0, 3, 1);
    }
    for (int i : Check.NO_INGREDIENTS) {
      CHECK.due("shopping of " + i, x.shopping(i, 0), RecipeScaler.NONE);
      CHECK.due("no plan, shopping of " + i, none.shopping(i, 0), RecipeScaler.NONE);
      CHECK.due("a pack of " + i, x.shopping(i, 10), RecipeScaler.NONE);
    }
    for (int what : new int[] {0, 1, 2, 3, 10, 12}) {
      CHECK.due("no plan, what " + what, none.shopping(0, what), RecipeScaler.STATE);
    }
    Check.read(x, "0:3ma=1g");
    for (int what : new int[] {0, 1, 2, 3, 10, 12}) {
      CHECK.due("not found, what " + what, x.shopping(0, what), RecipeScaler.STATE);
      CHECK.due("not found, another's", x.shopping(1, what),
          what < 10 ? RecipeScaler.STATE : RecipeScaler.NONE);
    }
    CHECK.due("shopping is no change", x.count(4), 6);

    CHECK.says("-5 if there is a lack and no pack and what is not 0.");
    RecipeScaler y = Check.planned("0:3ga=1g");
    CHECK.due("the lack", y.shopping(0, 0), 3);
    for (int what = 1; what < 4; what++) {
      CHECK.due("no pack, what " + what, y.shopping(0, what), -5);
    }
    CHECK.due("NONE ahead of -5", y.shopping(0, 10), RecipeScaler.NONE);
    CHECK.due("NONE ahead of -5, what 4", y.shopping(0, 4), RecipeScaler.NONE);
    y.stock(0, 2);
    CHECK.due("1 gram", y.shopping(0, 1), -5);
    y.stock(0, 3);
    CHECK.due("no lack", y.shopping(0, 1), 0);
  }

  private static RecipeScaler manyLacks() {
    RecipeScaler x = Check.planned("0:110ga,220gb,77gc,33gd,99ge,500gl=1g");
    x.pack(0, 15, 10);
    x.pack(1, 250, 999);
    x.pack(3, 1, 1);
    x.stock(4, 99);
    x.pack(4, 1, 1);
    x.pack(11, 7, 5);
    return x;
  }

  private static void account() {
    CHECK.says("Returns a number of the whole shopping. - `what`: 0 the price of all packs; "
        + "1 the waste; 2 the grams that are bought;");
    RecipeScaler x = manyLacks();
    CHECK.due("price", x.account(0), 80 + 999 + 33 + 360);
    CHECK.due("waste", x.account(1), 10 + 30 + 4);
    CHECK.due("grams", x.account(2), 120 + 250 + 33 + 504);
    RecipeScaler all = Check.planned("0:1ga,1gb,1gc,1gd,1ge,1g1=1g", "1:1gf,1gg,1gh,1gi,1g2=1g",
        "2:1gj,1gk,1gl=1g");
    for (int i = 0; i < 12; i++) {
      all.pack(i, 2, i + 1);
    }
    CHECK.due("price of twelve", all.account(0), 78);
    CHECK.due("waste of twelve", all.account(1), 12);
    CHECK.due("grams of twelve", all.account(2), 24);

    CHECK.says("3 the ingredients with a lack, as a set;");
    CHECK.due("lacking", x.account(3), 1 | 2 | 4 | 8 | 1 << 11);
    CHECK.due("all twelve", all.account(3), 4095);
    for (int i = 0; i < 12; i++) {
      all.stock(i, 1);
      CHECK.due("without those up to " + i, all.account(3), 4095 - ((2 << i) - 1));
    }

    CHECK.says("4 those of them that have no packs or count as without, as a set;");
    CHECK.due("no packs", x.account(4), 4);
    x.scale(0, 11, 1);
    CHECK.due("a lack of 5500", x.account(4), 4 | 1 << 11);
    x.stock(11, 500);
    CHECK.due("a lack of 5000", x.account(4), 4);
    x.stock(2, 999999);
    CHECK.due("no lack and no packs", x.account(4), 0);
    CHECK.due("of twelve none", all.account(4), 0);

    CHECK.says("the sums are over ingredients with packs");
    x = Check.planned("0:5ga,7gb=1g");
    CHECK.due("no packs, price", x.account(0), 0);
    CHECK.due("no packs, waste", x.account(1), 0);
    CHECK.due("no packs, grams", x.account(2), 0);
    x.pack(0, 3, 9);
    CHECK.due("one with packs, price", x.account(0), 18);
    CHECK.due("one with packs, waste", x.account(1), 1);
    CHECK.due("one with packs, grams", x.account(2), 6);
    x.stock(0, 5);
    x.pack(2, 3, 9);
    for (int what = 0; what < 3; what++) {
      CHECK.due("with packs but no lack, what " + what, x.account(what), 0);
    }
    x = Check.planned("0:5ga=1g");
    x.substitute(0, 1, 2, 1, 0, 0);
    x.pack(0, 3, 9);
    x.pack(1, 4, 7);
    CHECK.due("after the substitutions, price", x.account(0), 21);
    CHECK.due("after the substitutions, waste", x.account(1), 2);
    CHECK.due("after the substitutions, grams", x.account(2), 12);
    CHECK.due("after the substitutions, lacking", x.account(3), 2);
  }

  private static void accountErrors() {
    CHECK.says("Returns the number; NONE if what is invalid; "
        + "STATE if there is no plan, or what is needed cannot be found.");
    RecipeScaler x = Check.with("0:1ga=1g");
    for (int what : new int[] {-1, 5, Integer.MIN_VALUE, Integer.MAX_VALUE}) {
      CHECK.due("account " + what + ", no plan", x.account(what), RecipeScaler.NONE);
    }
    for (int what = 0; what < 5; what++) {
      CHECK.due("no plan, account " + what, x.account(what), RecipeScaler.STATE);
    }
    x.scale(0, 1, 1);
    for (int what = 0; what < 5; what++) {
      CHECK.isTrue("account " + what, x.account(what) >= 0);
    }
    for (int what : new int[] {-1, 5, Integer.MIN_VALUE, Integer.MAX_VALUE}) {
      CHECK.due("account " + what, x.account(what), RecipeScaler.NONE);
    }
    x.removeRecipe(0);
    for (int what = 0; what < 5; what++) {
      CHECK.due("not found, account " + what, x.account(what), RecipeScaler.STATE);
    }
    CHECK.due("account is no change", x.count(4), 3);
  }

  private static void buy() {
    CHECK.says("Buys what the shopping tells, and takes what is needed: the stock of each "
        + "ingredient becomes what it was plus what is bought minus what is needed of it after the "
        + "substitutions, where this is rounded up to whole grams first, but at least 0.");
    RecipeScaler x = manyLacks();
    x.pack(2, 10, 2);
    x.stock(0, 1);
    x.stock(5, 8);
    CHECK.due("buy", x.buy(), 80 + 999 + 16 + 33 + 360);
    int[] due = {11, 30, 3, 0, 0, 8, 0, 0, 0, 0, 0, 4};
    for (int i = 0; i < 12; i++) {
      CHECK.due("stock of " + i, x.count(20 + i), due[i]);
    }
    // 3/2 of a, 1/2 of b, 5/2 of c and 1/999 of l, each rounded up by itself.
    x = Check.planned("0:3/2ga,1/2gb,5/2gc,1/999gl=1g");
    x.stock(0, 10);
    x.pack(1, 1, 7);
    x.stock(2, 3);
    x.pack(11, 5, 1);
    CHECK.due("buy", x.buy(), 8);
    CHECK.due("10 minus 2", x.count(20), 8);
    CHECK.due("0 plus 1 minus 1", x.count(21), 0);
    CHECK.due("3 minus 3", x.count(22), 0);
    CHECK.due("0 plus 5 minus 1", x.count(31), 4);
    // All twelve, so that each has its own packs and stock.
    RecipeScaler all = Check.planned("0:9ga,9gb,9gc,9gd,9ge,1g1=1g", "1:9gf,9gg,9gh,9gi,1g2=1g",
        "2:9gj,9gk,9gl=1g");
    for (int i = 0; i < 12; i++) {
      all.pack(i, 9 + i, 1 << i % 6);
    }
    CHECK.due("price of twelve", all.buy(), 126);
    for (int i = 0; i < 12; i++) {
      CHECK.due("stock of " + i, all.count(20 + i), i);
    }
  }

  private static void buyAfterSubstitutions() {
    CHECK.says("minus what is needed of it after the substitutions");
    RecipeScaler x = Check.planned("0:10ga=1g");
    x.substitute(0, 1, 3, 2, 0, 0);
    x.pack(1, 4, 5);
    CHECK.due("buy, though a has no packs", x.buy(), 20);
    CHECK.due("nothing of a", x.count(20), 0);
    CHECK.due("16 of b minus 15", x.count(21), 1);
    x = Check.planned("0:10ga=1g");
    x.substitute(0, 1, 1, 4, 3, 0);
    x.stock(0, 7);
    x.pack(1, 5, 5);
    x.pack(0, 1, 99);
    CHECK.due("buy for what is above the stock", x.buy(), 5);
    CHECK.due("all of a is taken", x.count(20), 0);
    CHECK.due("5 of b minus 1", x.count(21), 4);
  }

  private static void buyRemovesThePlan() {
    CHECK.says("The plan is removed.");
    RecipeScaler x = Check.lacking(3, 3, 9);
    CHECK.due("buy", x.buy(), 9);
    for (int what = 5; what <= 7; what++) {
      CHECK.due("count(" + what + ")", x.count(what), -5);
    }
    CHECK.due("needed", Check.needed(x, 0, 0), "NO");
    CHECK.due("risk", x.risk(0), RecipeScaler.STATE);
    CHECK.due("path", x.path(0, 0), RecipeScaler.STATE);
    CHECK.due("buy again", x.buy(), RecipeScaler.STATE);
    CHECK.due("the recipe stays", x.count(0), 1);
  }

  private static void buyErrors() {
    CHECK.says("Returns the price of all packs, in cents; STATE if there is no plan, what is needed "
        + "cannot be found, or an ingredient has a lack and no packs;");
    RecipeScaler x = Check.with("0:5ga,7gl=1g");
    CHECK.due("no plan", x.buy(), RecipeScaler.STATE);
    x.scale(0, 1, 1);
    CHECK.due("no packs", x.buy(), RecipeScaler.STATE);
    x.pack(0, 5, 999);
    CHECK.due("no packs of l", x.buy(), RecipeScaler.STATE);
    x.pack(11, 1, 1);
    Check.read(x, "0:5ga,7gl,1g7=1g");
    CHECK.due("not found", x.buy(), RecipeScaler.STATE);
    CHECK.due("its reason", x.reason(), 1);
    CHECK.due("the plan stays", x.count(5), 0);
    CHECK.due("the stock stays", x.count(20) + x.count(31), 0);
    CHECK.due("changes", x.count(4), 5);
    x.back();
    x.scale(0, 715, 1);
    CHECK.due("a lack of 5005", x.buy(), RecipeScaler.STATE);
    x.scale(0, 714, 1);
    CHECK.due("a lack of 4998", x.buy(), 714 * 999 + 4998);
    x.scale(0, 1, 1);
    x.stock(0, 5);
    x.stock(11, 7);
    CHECK.due("no lack", x.buy(), 0);
    CHECK.due("all is taken", x.count(20) + x.count(31), 0);
    x.scale(0, 1, 1);
    x.stock(0, 4);
    x.stock(11, 7);
    CHECK.due("1 gram", x.buy(), 999);
    CHECK.due("4 plus 5 minus 5", x.count(20), 4);
  }

  private static void greatestStocks() {
    // What is bought is at most 1999 above the lack, so that no stock can come above 999999.
    CHECK.says("FULL if a stock would be above 999999.");
    RecipeScaler x = Check.with("0:1ga=1g");
    x.substitute(0, 1, 1, 1, 0, 0);
    x.stock(0, 999999);
    x.stock(1, 999999);
    x.pack(1, 2000, 1);
    x.scale(0, 1, 9999);
    CHECK.due("the greatest stock, of which nothing is taken", x.buy(), 0);
    CHECK.due("stays", x.count(20), 999999);
    CHECK.due("the other one", x.count(21), 999998);
    x = Check.with("0:999ga,3/7ga=1g");
    x.scale(0, 1001, 1);
    x.stock(0, 999999);
    x.pack(0, 2000, 5);
    CHECK.due("the greatest stock and a lack", x.shopping(0, 0), 429);
    CHECK.due("buy", x.buy(), 5);
    CHECK.due("what is left", x.count(20), 1571);
  }
}
