/** Promises 15, 21 and 22: packs, the shopping for one ingredient and for all, and buying. */
public final class ShoppingTest {
  private static final Check CHECK = new Check("ShoppingTest");

  public static void main(String[] args) {
    lack();
    choices();
    choicesOfEqualPrice();
    greatLacks();
    withoutPacks();
    wrongArguments();
    account();
    accountNot();
    buy();
    buyRoundsUp();
    buyNot();
    CHECK.end();
  }

  private static void bought(String call, RecipeScaler x, int waste, int price, int... numbers) {
    CHECK.due(call + ": waste", x.shopping(0, 1), waste);
    CHECK.due(call + ": price", x.shopping(0, 2), price);
    CHECK.due(call + ": grams", x.shopping(0, 3), x.shopping(0, 0) + waste);
    for (int k = 0; k < numbers.length; k++) {
      CHECK.due(call + ": pack " + k, x.shopping(0, 10 + k), numbers[k]);
    }
    CHECK.due(call + ": no further pack", x.shopping(0, 10 + numbers.length), RecipeScaler.NONE);
  }

  private static void lack() {
    RecipeScaler x = Check.with("0:7/2ga,1mb=1g");
    x.density(1, 0, 1);
    x.scale(0, 1, 1);
    CHECK.due("rounded up", x.shopping(0, 0), 4);
    x.stock(0, 3);
    CHECK.due("minus the stock", x.shopping(0, 0), 1);
    x.stock(0, 4);
    CHECK.due("enough in stock", x.shopping(0, 0), 0);
    x.stock(0, 999999);
    CHECK.due("more than enough", x.shopping(0, 0), 0);
    CHECK.due("no lack, waste", x.shopping(0, 1), 0);
    CHECK.due("no lack, price", x.shopping(0, 2), 0);
    CHECK.due("no lack, grams", x.shopping(0, 3), 0);
    CHECK.due("no lack, no pack", x.shopping(0, 10), RecipeScaler.NONE);
    x.pack(0, 1, 1);
    CHECK.due("no lack, a pack", x.shopping(0, 10), 0);
    CHECK.due("nothing is needed", x.shopping(1, 0), 0);
    CHECK.due("none of another", x.shopping(11, 0), 0);
    x.stock(0, 0);
    x.substitute(0, 1, 2, 1, 0, 0);
    CHECK.due("behind the substitutions", x.shopping(0, 0), 0);
    CHECK.due("of the other one", x.shopping(1, 0), 7);
    CHECK.due("shopping is no change", x.count(4), 8);
  }

  private static void choices() {
    bought("one pack", Check.lacking(10, 3, 7), 2, 28, 4);
    bought("waste ahead of price", Check.lacking(10, 11, 0, 10, 999), 0, 999, 0, 1);
    bought("waste ahead of price, mixed", Check.lacking(12, 13, 1, 5, 500, 7, 400), 0, 900, 0, 1, 1);
    bought("least price", Check.lacking(10, 10, 50, 5, 20), 0, 40, 0, 2);
    bought("least price, mixed", Check.lacking(20, 10, 50, 5, 20, 15, 65), 0, 80, 0, 4, 0);
    bought("some waste", Check.lacking(11, 7, 1, 5, 1), 1, 2, 1, 1);
    bought("a free pack", Check.lacking(9, 5, 0, 9, 0), 0, 0, 0, 1);
    bought("one great pack", Check.lacking(1, 2000, 5), 1999, 5, 1);
    bought("a waste that no number of one pack has", Check.lacking(43, 6, 1, 9, 1, 20, 1), 1, 4, 1, 2, 1);
  }

  private static void choicesOfEqualPrice() {
    bought("fewest packs, the first", Check.lacking(10, 10, 40, 5, 20), 0, 40, 1, 0);
    bought("fewest packs, the second", Check.lacking(10, 5, 20, 10, 40), 0, 40, 0, 1);
    bought("fewest packs, the third", Check.lacking(10, 5, 20, 2, 8, 10, 40), 0, 40, 0, 0, 1);
    bought("most of pack 0", Check.lacking(10, 5, 10, 3, 10, 7, 10), 0, 20, 2, 0, 0);
    bought("most of pack 0, others", Check.lacking(10, 3, 10, 5, 10, 7, 10), 0, 20, 1, 0, 1);
    bought("equal packs", Check.lacking(10, 5, 1, 5, 1, 5, 1), 0, 2, 2, 0, 0);
    bought("then of pack 1", Check.lacking(10, 9, 10, 5, 1, 5, 1), 0, 2, 0, 2, 0);
    bought("then of pack 1, behind pack 0", Check.lacking(13, 3, 9, 5, 1, 5, 1), 0, 11, 1, 2, 0);
    bought("free ones", Check.lacking(4, 1, 0, 2, 0, 3, 0), 0, 0, 1, 0, 1);
  }

  private static void greatLacks() {
    bought("5000 by 1", Check.lacking(5000, 1, 999), 0, 4995000, 5000);
    bought("5000 by 2000", Check.lacking(5000, 2000, 3), 1000, 9, 3);
    bought("5000 by 2000 and 1999", Check.lacking(5000, 2000, 3, 1999, 0), 997, 0, 0, 3);
    bought("4999 by 1, 1 and 2", Check.lacking(4999, 1, 1, 1, 1, 2, 2), 0, 4999, 1, 0, 2499);
    RecipeScaler x = Check.lacking(5001, 1, 1);
    CHECK.due("lack 5001", x.shopping(0, 0), 5001);
    for (int what : new int[] {1, 2, 3, 10}) {
      CHECK.due("lack 5001, what " + what, x.shopping(0, what), -5);
    }
    CHECK.due("lack 5001, pack 1", x.shopping(0, 11), RecipeScaler.NONE);
    x.stock(0, 1);
    bought("lack 5000 of 5001", x, 0, 5000, 5000);
  }

  private static void withoutPacks() {
    RecipeScaler x = Check.lacking(3);
    CHECK.due("the lack", x.shopping(0, 0), 3);
    for (int what = 1; what <= 3; what++) {
      CHECK.due("without packs, what " + what, x.shopping(0, what), -5);
      CHECK.due("without lack, what " + what, x.shopping(1, what), 0);
    }
    CHECK.due("no such pack", x.shopping(0, 10), RecipeScaler.NONE);
  }

  private static void wrongArguments() {
    RecipeScaler x = Check.lacking(3, 2, 1, 3, 1);
    for (int i : new int[] {-1, 12, Integer.MIN_VALUE, Integer.MAX_VALUE}) {
      CHECK.due("shopping of " + i, x.shopping(i, 0), RecipeScaler.NONE);
    }
    for (int what : new int[] {-1, 4, 9, 12, 13, Integer.MIN_VALUE, Integer.MAX_VALUE}) {
      CHECK.due("shopping what " + what, x.shopping(0, what), RecipeScaler.NONE);
    }
    Check.read(x, "0:1g7=1g");
    CHECK.due("not found", x.shopping(0, 0), RecipeScaler.STATE);
    CHECK.due("its reason", x.reason(), 1);
    CHECK.due("not found, no such pack", x.shopping(0, 12), RecipeScaler.NONE);
    RecipeScaler y = Check.with("0:1ga=1g");
    CHECK.due("no plan", y.shopping(0, 0), RecipeScaler.STATE);
    CHECK.due("no plan, no such pack", y.shopping(0, 10), RecipeScaler.NONE);
  }

  private static RecipeScaler manyLacks() {
    RecipeScaler x = Check.with("0:10ga,20gb,7gc,3gd,9ge,500gl=1g");
    x.scale(0, 11, 1);
    x.pack(0, 100, 30);
    x.pack(0, 15, 10);
    x.pack(1, 250, 999);
    x.pack(3, 1, 1);
    x.stock(4, 99);
    x.pack(4, 1, 1);
    x.pack(11, 2000, 5);
    return x;
  }

  private static void account() {
    RecipeScaler x = manyLacks();
    // 110 of a: 8 packs of 15 or 1 of each; both waste nothing above 5: 115; 120. 220 of b: 250.
    CHECK.due("a's waste", x.shopping(0, 1), 5);
    CHECK.due("price", x.account(0), 40 + 999 + 33);
    CHECK.due("waste", x.account(1), 5 + 30);
    CHECK.due("grams", x.account(2), 115 + 250 + 33);
    CHECK.due("lacking", x.account(3), 1 | 2 | 4 | 8 | 1 << 11);
    CHECK.due("without packs", x.account(4), 4 | 1 << 11);
    x.stock(11, 500);
    CHECK.due("a lack of 5000", x.account(4), 4);
    CHECK.due("its grams", x.account(2), 115 + 250 + 33 + 6000);
    x.stock(0, 999999);
    CHECK.due("no lack of a", x.account(3), 2 | 4 | 8 | 1 << 11);
    CHECK.due("its price is not added", x.account(0), 999 + 33 + 15);
    CHECK.due("account is no change", x.back(), 7);
    x.substitute(1, 2, 1, 1, 0, 0);
    CHECK.due("behind the substitutions", x.account(3), 1 | 4 | 8 | 1 << 11);
  }

  private static void accountNot() {
    RecipeScaler x = new RecipeScaler();
    for (int what : new int[] {-1, 5, Integer.MIN_VALUE, Integer.MAX_VALUE}) {
      CHECK.due("account " + what, x.account(what), RecipeScaler.NONE);
    }
    for (int what = 0; what < 5; what++) {
      CHECK.due("no plan, account " + what, x.account(what), RecipeScaler.STATE);
    }
    x = Check.with("0:1g7=1g");
    x.scale(0, 1, 1);
    CHECK.due("not found", x.account(0), RecipeScaler.STATE);
    x = Check.with("0:1ga=1g");
    x.stock(0, 1);
    x.scale(0, 1, 1);
    for (int what = 0; what < 5; what++) {
      CHECK.due("no lack, account " + what, x.account(what), 0);
    }
  }

  private static void buy() {
    RecipeScaler x = manyLacks();
    CHECK.due("a lack without packs", x.buy(), RecipeScaler.STATE);
    x.pack(2, 10, 2);
    CHECK.due("a lack above 5000", x.buy(), RecipeScaler.STATE);
    x.stock(11, 501);
    CHECK.due("changes", x.count(4), 8);
    CHECK.due("buy", x.buy(), 40 + 999 + 16 + 33 + 15);
    int[] due = {5, 30, 3, 0, 0, 0, 0, 0, 0, 0, 0, 1001};
    for (int i = 0; i < 12; i++) {
      CHECK.due("stock of " + i, x.count(20 + i), due[i]);
    }
    CHECK.due("no plan any more", x.count(5), -5);
    CHECK.due("no factor any more", x.count(6), -5);
    CHECK.due("buy again", x.buy(), RecipeScaler.STATE);
    CHECK.due("a change", x.back(), 7);
    CHECK.due("the plan is back", x.count(5), 0);
    CHECK.due("the stock is back", x.count(24), 99);
  }

  private static void buyRoundsUp() {
    RecipeScaler x = Check.with("0:3/2ga,1/2gb,5/2gc=1g");
    x.scale(0, 1, 1);
    x.stock(0, 10);
    x.pack(1, 1, 7);
    x.stock(2, 999999);
    x.substitute(2, 0, 1, 5, 0, 0);
    CHECK.due("buy", x.buy(), 7);
    CHECK.due("10 minus 2", x.count(20), 8);
    CHECK.due("0 plus 1 minus 1", x.count(21), 0);
    CHECK.due("nothing is taken behind a substitution", x.count(22), 999999);
    RecipeScaler y = Check.with("0:1ga=1g");
    y.stock(0, 5);
    y.scale(0, 5, 1);
    CHECK.due("buy for nothing", y.buy(), 0);
    CHECK.due("all is taken", y.count(20), 0);
    CHECK.due("changes", y.count(4), 4);
  }

  private static void buyNot() {
    RecipeScaler x = Check.with("0:1ga=1g");
    CHECK.due("no plan", x.buy(), RecipeScaler.STATE);
    x.scale(0, 3, 1);
    CHECK.due("no packs", x.buy(), RecipeScaler.STATE);
    x.pack(0, 1, 1);
    Check.read(x, "0:1g0=1g");
    CHECK.due("not found", x.buy(), RecipeScaler.STATE);
    CHECK.due("its reason", x.reason(), 2);
    CHECK.due("the plan is left", x.count(5), 0);
    CHECK.due("the stock is left", x.count(20), 0);
    CHECK.due("no change", x.count(4), 4);
  }
}
