/** The words on the face, fractions and ingredients, and on promises 1 and 5 to 10. */
public final class NumberBoundsTest {
  private static final Check CHECK = new Check("NumberBoundsTest");
  private static final int[] NO_DIVISORS = {0, -1, 10000, Integer.MIN_VALUE, Integer.MAX_VALUE};
  private static final int[] NO_DIVIDENDS = {-2, 10000, Integer.MIN_VALUE, Integer.MAX_VALUE};
  private static final int[] NO_SETS = {-1, 256, Integer.MIN_VALUE, Integer.MAX_VALUE};

  public static void main(String[] args) {
    face();
    newObject();
    lowestTerms();
    greatestNumerator();
    greatestDenominator();
    ingredients();
    initially();
    packs();
    density();
    weight();
    allergens();
    stock();
    pack();
    removePack();
    CHECK.end();
  }

  private static void face() {
    CHECK.says("public static final int NONE = -1, BAD = -2, STATE = -3, FULL = -4;");
    CHECK.due("NONE", RecipeScaler.NONE, -1);
    CHECK.due("BAD", RecipeScaler.BAD, -2);
    CHECK.due("STATE", RecipeScaler.STATE, -3);
    CHECK.due("FULL", RecipeScaler.FULL, -4);
    CHECK.says("public static final long NO = Long.MIN_VALUE;");
    CHECK.due("NO", RecipeScaler.NO, Long.MIN_VALUE);
    CHECK.says("- `NO = Long.MIN_VALUE`: The error value of methods that return a long.");
    RecipeScaler x = new RecipeScaler();
    CHECK.due("needed", x.needed(-1, 0, 0), Long.MIN_VALUE);
    CHECK.due("applied", x.applied(-1, 0), Long.MIN_VALUE);
    CHECK.due("again", x.again(-1, 0), Long.MIN_VALUE);
    CHECK.due("possible", x.possible(-1, 0), Long.MIN_VALUE);

    CHECK.says("An object is used for at most 512 calls after it has been made; "
        + "what later calls answer is free.");
    x = new RecipeScaler();
    for (int i = 1; i <= 511; i++) {
      CHECK.due("call " + i, x.stock(0, i), i - 1);
    }
    CHECK.due("call 512", x.count(20), 511);
  }

  private static void newObject() {
    CHECK.says("Creates a scaler without recipes.");
    RecipeScaler x = new RecipeScaler();
    CHECK.due("the number of recipes", x.count(0), 0);
    CHECK.due("their set", x.count(1), 0);
    CHECK.due("substitutions", x.count(2), 0);
    CHECK.due("bytes on the tape", x.count(3), 0);
    CHECK.due("changes", x.count(4), 0);
    for (int r = 0; r < 8; r++) {
      CHECK.due("recipe " + r, x.recipe(r, 0), RecipeScaler.STATE);
    }
    RecipeScaler other = Check.with("0:1ga=1g");
    other.stock(0, 5);
    CHECK.due("another object's recipes are not its own", x.count(0), 0);
    CHECK.due("nor is another one's stock", x.count(20), 0);
  }

  private static void lowestTerms() {
    CHECK.says("All amounts are fractions that are not negative, in lowest terms.");
    RecipeScaler x = Check.with("0:6/4ga,998/499mb,999/999pc,1/3gd,1/6gd=10/4p@6");
    int[][] due = {{3, 2}, {2, 1}, {1, 1}, {1, 3}};
    for (int i = 0; i < due.length; i++) {
      CHECK.due("item " + i + ", up", x.item(0, i, 0), due[i][0]);
      CHECK.due("item " + i + ", down", x.item(0, i, 1), due[i][1]);
    }
    CHECK.due("yield, up", x.recipe(0, 1), 5);
    CHECK.due("yield, down", x.recipe(0, 2), 2);
    x.density(1, 4, 6);
    x.weight(2, 0, 9999);
    x.scale(0, 9999, 6666);
    CHECK.due("factor, up", x.count(6), 3);
    CHECK.due("factor, down", x.count(7), 2);
    CHECK.due("of grams", Check.needed(x, 0, 0), "9/4");
    CHECK.due("of millilitres", Check.needed(x, 1, 0), "2/1");
    CHECK.due("0 of pieces", Check.needed(x, 2, 0), "0/1");
    CHECK.due("a sum", Check.needed(x, 3, 0), "3/4");
    CHECK.due("the second way", Check.again(x, 3), "3/4");
    x.pan(0, 9);
    CHECK.due("factor of a pan, up", x.count(6), 3);
    CHECK.due("factor of a pan, down", x.count(7), 2);
    x.substitute(0, 4, 4, 6, 0, 0);
    CHECK.due("taken away", Check.applied(x, 0), "1 9/4");
    CHECK.due("nothing is left", Check.needed(x, 0, 1), "0/1");
    CHECK.due("with a ratio", Check.needed(x, 4, 1), "3/2");
    x.stock(0, 12);
    x.stock(1, 16);
    x.stock(3, 4);
    CHECK.due("possible", Check.possible(x, 0), "8/1");
  }

  private static void greatestNumerator() {
    CHECK.says("A fraction is too great if its numerator or its denominator, "
        + "in lowest terms, is above 1000000000.");
    RecipeScaler x = Check.with("0:500g1=1g", "1:400ga=1g", "2:983g3=1g", "3:129ga=1g");
    CHECK.due("500 times 400 times 5000", x.scale(0, 5000, 1), 1);
    CHECK.due("is just not too great", Check.needed(x, 0, 0), "1000000000/1");
    CHECK.due("983 times 129 times 7886 is 2 above", x.scale(2, 7886, 1), 0);
    CHECK.due("its reason", x.reason(), 5);
    Check.read(x, "3:129/2ga=1g");
    CHECK.due("half of it", x.scale(2, 7886, 1), 1);
    CHECK.due("in lowest terms", Check.needed(x, 0, 0), "500000001/1");
    // 1 above, as a sum: 500 divided by 1/500, times 400 and 10, and then 1.
    RecipeScaler y = Check.planned("0:500g1=1g", "1:400pa=1/500g");
    y.weight(0, 10, 1);
    CHECK.due("ahead of the sum", Check.needed(y, 0, 0), "1000000000/1");
    Check.read(y, "0:500g1,1gb=1g");
    CHECK.due("1 of another ingredient", Check.needed(y, 0, 0), "1000000000/1");
    Check.read(y, "0:500g1,1ga=1g");
    CHECK.due("1 above", Check.needed(y, 0, 0), "NO");
    Check.read(y, "0:1ga,500g1=1g");
    CHECK.due("1 above, the other way round", Check.needed(y, 0, 0), "NO");
    // 52579 times 19019 is 1 above, where 19019 is 77 times 247.
    RecipeScaler z = Check.with("0:1/77g1=1g", "1:1/247ga=1g");
    z.stock(0, 52578);
    CHECK.due("below", Check.possible(z, 0), 52578L * 19019 + "/1");
    z.stock(0, 52579);
    CHECK.due("1 above as well", Check.possible(z, 0), "NO");
  }

  private static void greatestDenominator() {
    RecipeScaler x = Check.with("0:1/500g1=1g", "1:1/400ga=1g", "2:1/983g3=1g", "3:1/129ga=1g");
    CHECK.due("a denominator of 500 times 400 times 5000", x.scale(0, 1, 5000), 1);
    CHECK.due("is just not too great", Check.needed(x, 0, 0), "1/1000000000");
    CHECK.due("983 times 129 times 7886 is 2 above", x.scale(2, 1, 7886), 0);
    CHECK.due("its reason", x.reason(), 5);
    Check.read(x, "3:2/129ga=1g");
    CHECK.due("half of it", x.scale(2, 1, 7886), 1);
    CHECK.due("in lowest terms", Check.needed(x, 0, 0), "1/500000001");
  }

  private static void ingredients() {
    CHECK.says("There are 12 ingredients, numbered from 0, with the letters a to l.");
    for (int i = 0; i < 12; i++) {
      RecipeScaler x = Check.planned("0:1g" + (char) ('a' + i) + "=1g");
      for (int other = 0; other < 12; other++) {
        CHECK.due("needed of " + other + " by letter " + i, x.needed(other, 0, 0),
            other == i ? 1 : 0);
      }
    }
    CHECK.due("the letter m", Check.read(new RecipeScaler(), "0:1gm=1g"), -104);
    CHECK.due("the sign below a", Check.read(new RecipeScaler(), "0:1g`=1g"), -104);
    CHECK.due("a capital letter", Check.read(new RecipeScaler(), "0:1gA=1g"), -104);
    CHECK.due("the last one", new RecipeScaler().stock(11, 1), 0);
    CHECK.due("none above", new RecipeScaler().stock(12, 1), RecipeScaler.NONE);
    CHECK.due("none below", new RecipeScaler().stock(-1, 1), RecipeScaler.NONE);
  }

  private static void initially() {
    CHECK.says("An ingredient has a density, the grams of a millilitre, and a weight, "
        + "the grams of a piece, both fractions or unknown, initially unknown;");
    for (int i = 0; i < 12; i++) {
      char letter = (char) ('a' + i);
      RecipeScaler x = Check.planned("0:4m" + letter + "=1g", "1:4p" + letter + "=1g");
      CHECK.due("no density of " + letter, x.reason(), 4);
      CHECK.due("a density is not a weight", x.density(i, 3, 8), 0);
      CHECK.due("4 ml of " + letter, Check.needed(x, i, 0), "3/2");
      CHECK.due("no weight of " + letter, x.scale(1, 1, 1), 0);
      CHECK.due("a weight is not a density", x.weight(i, 5, 8), 0);
      CHECK.due("4 pieces of " + letter, Check.needed(x, i, 0), "5/2");
    }

    CHECK.says("a set of allergens that it contains and a set of those of which it has traces, "
        + "bits 0 to 7, initially empty;");
    RecipeScaler x = Check.planned("0:1ga,1gb,1gc,1gd,1ge,1gf=1g");
    CHECK.due("nothing is contained", x.risk(0), 0);
    CHECK.due("no traces", x.risk(1), 0);
    for (int i = 0; i < 12; i++) {
      CHECK.due("both empty at first " + i, x.allergens(i, 0, 0), 0);
    }
    for (int bit = 0; bit < 8; bit++) {
      x.allergens(3, 1 << bit, 0);
      CHECK.due("contained bit " + bit, x.risk(0), 1 << bit);
      CHECK.due("no trace of bit " + bit, x.risk(1), 0);
      x.allergens(3, 0, 1 << bit);
      CHECK.due("not contained bit " + bit, x.risk(0), 0);
      CHECK.due("a trace of bit " + bit, x.risk(1), 1 << bit);
    }

    CHECK.says("a stock of whole grams, initially 0;");
    for (int i = 0; i < 12; i++) {
      CHECK.due("stock at first " + i, new RecipeScaler().count(20 + i), 0);
      CHECK.due("previous stock " + i, new RecipeScaler().stock(i, 7), 0);
    }
  }

  private static void packs() {
    CHECK.says("and at most 3 packs, each with a size of 1 to 2000 grams and a price of 0 to 999 "
        + "cents, numbered from 0.");
    for (int i = 0; i < 12; i++) {
      RecipeScaler x = new RecipeScaler();
      CHECK.due("no packs at first", x.count(40 + i), 0);
      CHECK.due("the first is pack 0", x.pack(i, 1, 0), 0);
      CHECK.due("then pack 1", x.pack(i, 2000, 999), 1);
      CHECK.due("then pack 2", x.pack(i, 1000, 500), 2);
      CHECK.due("no pack 3", x.pack(i, 1, 0), RecipeScaler.FULL);
      CHECK.due("three packs", x.count(40 + i), 3);
      CHECK.due("size 0", x.pack((i + 1) % 12, 0, 1), RecipeScaler.BAD);
      CHECK.due("size 2001", x.pack((i + 1) % 12, 2001, 1), RecipeScaler.BAD);
      CHECK.due("price -1", x.pack((i + 1) % 12, 1, -1), RecipeScaler.BAD);
      CHECK.due("price 1000", x.pack((i + 1) % 12, 1, 1000), RecipeScaler.BAD);
    }
  }

  /** Sets the grams of a unit: density or weight. */
  private interface Setter {
    int set(RecipeScaler x, int ingredient, int up, int down);
  }

  private static void density() {
    CHECK.says("Sets the density of an ingredient. - `ingredient`: the ingredient");
    RecipeScaler x = Check.planned("0:6mb,1mc=1g");
    x.density(2, 1, 1);
    CHECK.due("of b", x.density(1, 1, 4), 0);
    CHECK.due("6 ml of b", Check.needed(x, 1, 0), "3/2");
    CHECK.due("not of c", Check.needed(x, 2, 0), "1/1");
    x.weight(1, 1, 1);
    CHECK.due("a weight does not change it", Check.needed(x, 1, 0), "3/2");
    grams("density", 'm', RecipeScaler::density, RecipeScaler::weight);
  }

  private static void weight() {
    CHECK.says("Sets the weight of a piece of an ingredient. - `ingredient`: the ingredient");
    RecipeScaler x = Check.planned("0:6pb,1pc=1g");
    x.weight(2, 1, 1);
    CHECK.due("of b", x.weight(1, 1, 4), 0);
    CHECK.due("6 pieces of b", Check.needed(x, 1, 0), "3/2");
    CHECK.due("not of c", Check.needed(x, 2, 0), "1/1");
    x.density(1, 1, 1);
    CHECK.due("a density does not change it", Check.needed(x, 1, 0), "3/2");
    grams("weight", 'p', RecipeScaler::weight, RecipeScaler::density);
  }

  /** What density and weight have in common, each for itself. */
  private static void grams(String name, char unit, Setter setter, Setter other) {
    CHECK.says("- `up`: the numerator, 0 to 9999, or -1 to make it unknown");
    RecipeScaler x = Check.planned("0:6" + unit + "b=1g");
    setter.set(x, 1, 9999, 1);
    CHECK.due(name + " up 9999", Check.needed(x, 1, 0), "59994/1");
    setter.set(x, 1, 9998, 1);
    CHECK.due(name + " up 9998", Check.needed(x, 1, 0), "59988/1");
    setter.set(x, 1, 0, 1);
    CHECK.due(name + " up 0 is known", Check.needed(x, 1, 0), "0/1");
    setter.set(x, 1, -1, 1);
    CHECK.due(name + " up -1 is unknown", Check.needed(x, 1, 0), "NO");
    CHECK.due(name + " up -1, the reason", x.reason(), 4);

    CHECK.says("- `down`: the denominator, 1 to 9999");
    setter.set(x, 1, 1, 9999);
    CHECK.due(name + " down 9999", Check.needed(x, 1, 0), "2/3333");
    setter.set(x, 1, 1, 1);
    CHECK.due(name + " down 1", Check.needed(x, 1, 0), "6/1");
    setter.set(x, 1, 9999, 9999);
    CHECK.due(name + " 9999 both", Check.needed(x, 1, 0), "6/1");

    CHECK.says("Returns 1 if it was known before, otherwise 0;");
    x = new RecipeScaler();
    CHECK.due(name + " at first", setter.set(x, 0, -1, 9999), 0);
    CHECK.due(name + " behind unknown", setter.set(x, 0, 0, 5), 0);
    CHECK.due(name + " behind 0", setter.set(x, 0, 7, 5), 1);
    CHECK.due(name + " behind 7/5", setter.set(x, 0, -1, 1), 1);
    CHECK.due(name + " behind unknown again", setter.set(x, 0, 7, 5), 0);
    CHECK.due(name + " of another", setter.set(x, 11, 7, 5), 0);
    CHECK.due(name + ", the other one of the two", other.set(x, 1, 1, 1), 0);
    CHECK.due(name + " is not known by it", setter.set(x, 1, 1, 1), 0);

    CHECK.says("NONE if there is no such ingredient; BAD if up or down is out of range.");
    x = new RecipeScaler();
    for (int i : Check.NO_INGREDIENTS) {
      CHECK.due(name + " of " + i, setter.set(x, i, 1, 1), RecipeScaler.NONE);
      CHECK.due(name + " NONE ahead of BAD " + i, setter.set(x, i, -2, 0), RecipeScaler.NONE);
    }
    for (int up : NO_DIVIDENDS) {
      CHECK.due(name + " up " + up, setter.set(x, 0, up, 1), RecipeScaler.BAD);
    }
    for (int down : NO_DIVISORS) {
      for (int up : new int[] {-1, 0, 1}) {
        CHECK.due(name + " " + up + " by " + down, setter.set(x, 0, up, down), RecipeScaler.BAD);
      }
    }
    CHECK.due(name + ": none of these is a change", x.count(4), 0);
    CHECK.due(name + " is still unknown", setter.set(x, 0, 1, 1), 0);
  }

  private static void allergens() {
    CHECK.says("Sets the allergens of an ingredient. - `ingredient`: the ingredient");
    RecipeScaler x = Check.planned("0:1gb=1g");
    x.allergens(0, 255, 255);
    CHECK.due("not of another", x.risk(0) + x.risk(1), 0);
    x.allergens(1, 4, 8);
    CHECK.due("contained", x.risk(0), 4);
    CHECK.due("traces", x.risk(1), 8);
    x.allergens(1, 1, 2);
    CHECK.due("in place of the earlier ones", x.risk(0), 1);
    CHECK.due("traces, too", x.risk(1), 2);

    CHECK.says("- `contained`: the set of those that it contains, 0 to 255");
    CHECK.due("all", x.allergens(1, 255, 2), 1 + 256 * 2);
    CHECK.due("all are contained", x.risk(0), 255);
    CHECK.due("none", x.allergens(1, 0, 2), 255 + 256 * 2);
    CHECK.due("none is contained", x.risk(0), 0);

    CHECK.says("- `traces`: the set of those of which it has traces, 0 to 255");
    CHECK.due("all", x.allergens(1, 0, 255), 256 * 2);
    CHECK.due("traces of all", x.risk(1), 255);
    CHECK.due("none", x.allergens(1, 0, 0), 256 * 255);
    CHECK.due("no traces", x.risk(1), 0);

    CHECK.says("Returns the previous contained ones plus 256 times the previous traces;");
    x = new RecipeScaler();
    CHECK.due("nothing", x.allergens(0, 255, 0), 0);
    CHECK.due("255", x.allergens(0, 0, 255), 255);
    CHECK.due("256 times 255", x.allergens(0, 255, 255), 256 * 255);
    CHECK.due("both", x.allergens(0, 1, 128), 65535);
    CHECK.due("one of each", x.allergens(0, 0, 0), 256 * 128 + 1);
    CHECK.due("nothing again", x.allergens(0, 0, 0), 0);

    CHECK.says("NONE if there is no such ingredient; BAD if a set is out of range.");
    for (int i : Check.NO_INGREDIENTS) {
      CHECK.due("allergens of " + i, x.allergens(i, 0, 0), RecipeScaler.NONE);
      CHECK.due("NONE ahead of BAD " + i, x.allergens(i, -1, 256), RecipeScaler.NONE);
    }
    x = new RecipeScaler();
    x.allergens(11, 3, 4);
    for (int set : NO_SETS) {
      CHECK.due("contained " + set, x.allergens(11, set, 0), RecipeScaler.BAD);
      CHECK.due("traces " + set, x.allergens(11, 0, set), RecipeScaler.BAD);
    }
    CHECK.due("none of these is a change", x.count(4), 1);
    CHECK.due("nor sets anything", x.allergens(11, 0, 0), 3 + 256 * 4);
  }

  private static void stock() {
    CHECK.says("Sets the stock of an ingredient. - `ingredient`: the ingredient");
    RecipeScaler x = new RecipeScaler();
    x.stock(3, 5);
    for (int i = 0; i < 12; i++) {
      CHECK.due("stock of " + i, x.count(20 + i), i == 3 ? 5 : 0);
    }

    CHECK.says("- `grams`: the stock, 0 to 999999 Returns the previous stock;");
    CHECK.due("the greatest", x.stock(3, 999999), 5);
    CHECK.due("the least", x.stock(3, 0), 999999);
    CHECK.due("behind the least", x.stock(3, 1), 0);

    CHECK.says("NONE if there is no such ingredient; BAD if grams is out of range.");
    for (int i : Check.NO_INGREDIENTS) {
      CHECK.due("stock of " + i, x.stock(i, 0), RecipeScaler.NONE);
      CHECK.due("NONE ahead of BAD " + i, x.stock(i, -1), RecipeScaler.NONE);
    }
    for (int grams : new int[] {-1, 1000000, Integer.MIN_VALUE, Integer.MAX_VALUE}) {
      CHECK.due("stock " + grams, x.stock(3, grams), RecipeScaler.BAD);
    }
    CHECK.due("none of these is a change", x.count(4), 4);
    CHECK.due("nor sets anything", x.count(23), 1);
  }

  private static void pack() {
    CHECK.says("Adds a pack to an ingredient. - `ingredient`: the ingredient");
    RecipeScaler x = Check.planned("0:1gb=1g");
    x.pack(0, 1, 0);
    CHECK.due("not to another", x.shopping(1, 2), -5);
    x.pack(1, 3, 4);
    CHECK.due("its waste", x.shopping(1, 1), 2);
    CHECK.due("its price", x.shopping(1, 2), 4);

    CHECK.says("- `size`: its size, 1 to 2000 - `price`: its price, 0 to 999");
    x = Check.planned("0:1ga,1gb,1gc,1gd=1g");
    x.pack(0, 1, 0);
    x.pack(1, 1, 999);
    x.pack(2, 2000, 0);
    x.pack(3, 2000, 999);
    int[][] due = {{1, 0}, {1, 999}, {2000, 0}, {2000, 999}};
    for (int i = 0; i < due.length; i++) {
      CHECK.due("size of " + i, x.shopping(i, 3), due[i][0]);
      CHECK.due("price of " + i, x.shopping(i, 2), due[i][1]);
    }

    CHECK.says("Returns the number of the pack; NONE if there is no such ingredient; "
        + "BAD if size or price is out of range; FULL if it has 3 packs.");
    x = new RecipeScaler();
    for (int i : Check.NO_INGREDIENTS) {
      CHECK.due("pack of " + i, x.pack(i, 1, 1), RecipeScaler.NONE);
      CHECK.due("NONE ahead of BAD " + i, x.pack(i, 0, -1), RecipeScaler.NONE);
    }
    for (int k = 0; k < 3; k++) {
      badPacks(x, k);
      CHECK.due("pack " + k, x.pack(11, 1, 1), k);
    }
    badPacks(x, 3);
    CHECK.due("a fourth", x.pack(11, 1, 1), RecipeScaler.FULL);
    CHECK.due("of another one", x.pack(10, 1, 1), 0);
    CHECK.due("only four of these are changes", x.count(4), 4);
  }

  /** BAD comes ahead of FULL, so that it is due for an ingredient with any number of packs. */
  private static void badPacks(RecipeScaler x, int packs) {
    for (int size : new int[] {0, -1, 2001, Integer.MIN_VALUE, Integer.MAX_VALUE}) {
      CHECK.due("size " + size + " behind " + packs, x.pack(11, size, 1), RecipeScaler.BAD);
    }
    for (int price : new int[] {-1, 1000, Integer.MIN_VALUE, Integer.MAX_VALUE}) {
      CHECK.due("price " + price + " behind " + packs, x.pack(11, 1, price), RecipeScaler.BAD);
    }
  }

  private static void removePack() {
    CHECK.says("Removes the pack of an ingredient that has the greatest number. "
        + "- `ingredient`: the ingredient");
    RecipeScaler x = Check.planned("0:1ga=1g");
    x.pack(0, 30, 3);
    x.pack(0, 20, 2);
    x.pack(0, 10, 1);
    x.pack(1, 10, 1);
    CHECK.due("pack 2 is bought", x.shopping(0, 3), 10);
    x.removePack(0);
    CHECK.due("without it pack 1", x.shopping(0, 3), 20);
    CHECK.due("there is no pack 2", x.shopping(0, 12), RecipeScaler.NONE);
    x.removePack(0);
    CHECK.due("without it pack 0", x.shopping(0, 3), 30);
    x.removePack(0);
    CHECK.due("without it none", x.shopping(0, 3), -5);
    CHECK.due("that of another stays", x.count(41), 1);
    x.pack(0, 7, 7);
    CHECK.due("a new one has its own size", x.shopping(0, 3), 7);

    CHECK.says("Returns the number of packs that remain; NONE if there is no such ingredient; "
        + "STATE if it has none.");
    x = new RecipeScaler();
    for (int i : Check.NO_INGREDIENTS) {
      CHECK.due("removePack of " + i, x.removePack(i), RecipeScaler.NONE);
    }
    CHECK.due("none at first", x.removePack(11), RecipeScaler.STATE);
    x.pack(11, 1, 1);
    x.pack(11, 1, 1);
    x.pack(11, 1, 1);
    CHECK.due("of three", x.removePack(11), 2);
    CHECK.due("of two", x.removePack(11), 1);
    CHECK.due("a new one is pack 1", x.pack(11, 1, 1), 1);
    CHECK.due("of two again", x.removePack(11), 1);
    CHECK.due("of one", x.removePack(11), 0);
    CHECK.due("of none", x.removePack(11), RecipeScaler.STATE);
    CHECK.due("only eight of these are changes", x.count(4), 8);
  }
}
