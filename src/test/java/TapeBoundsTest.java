/** The words on recipes and their texts, and on promises 2 to 4, 16 and 17. */
public final class TapeBoundsTest {
  private static final Check CHECK = new Check("TapeBoundsTest");
  private static final int[] OUTSIDE = {-1, 128, 255, 256, Integer.MIN_VALUE, Integer.MAX_VALUE};

  public static void main(String[] args) {
    recipes();
    theForm();
    partsOfTheForm();
    numbers();
    items();
    meaningOfTheParts();
    errorPositions();
    eachByteOfTexts();
    feed();
    feedOutOfRange();
    feedFull();
    read();
    removeRecipe();
    recipe();
    recipeSets();
    recipeErrors();
    item();
    CHECK.end();
  }

  private static void text(String text, int answer) {
    RecipeScaler x = new RecipeScaler();
    CHECK.due("read " + text, Check.read(x, text), answer);
    CHECK.due("recipes behind " + text, x.count(0), answer < 0 ? 0 : 1);
    CHECK.due("tape behind " + text, x.count(3), 0);
  }

  private static void recipes() {
    CHECK.says("There are 8 recipes, numbered from 0, initially missing.");
    RecipeScaler x = new RecipeScaler();
    for (int r = 0; r < 8; r++) {
      CHECK.due("missing at first " + r, x.recipe(r, 0), RecipeScaler.STATE);
      CHECK.due("read " + r, Check.read(x, r + ":1ga=1g"), r);
      CHECK.due("no longer missing " + r, x.recipe(r, 0), 1);
      CHECK.due("recipes so far", x.count(0), r + 1);
      CHECK.due("their set", x.count(1), (2 << r) - 1);
    }
    CHECK.due("no recipe 8", x.recipe(8, 0), RecipeScaler.NONE);
    CHECK.due("no recipe -1", x.recipe(-1, 0), RecipeScaler.NONE);
  }

  private static void theForm() {
    CHECK.says("A recipe is read from the tape, which holds at most 60 bytes, "
        + "and has the following form, without spaces:");
    String items = "999/999ga,999/998gb,999/997gc,999/996gd,999/995ge";
    String full = "0:" + items + "=999/994g";
    CHECK.due("its length", full.length(), 60);
    RecipeScaler x = new RecipeScaler();
    CHECK.due("feed all", Check.feed(x, full), 60);
    CHECK.due("no byte more", x.feed(1, '@', 0, 0, 0, 0), RecipeScaler.FULL);
    CHECK.due("read all", x.read(), 0);
    CHECK.due("its last byte but one", x.recipe(0, 2), 994);
    CHECK.due("a full tape that ends too early",
        Check.read(x, "0:" + items + ",999/999g"), -160);
    CHECK.due("a full tape, wrong at its end", Check.read(x, "0:" + items + "=999/9999"), -159);
    for (int at = 0; at <= "0:1ga=1g".length(); at++) {
      text(new StringBuilder("0:1ga=1g").insert(at, ' ').toString(), -100 - at);
    }

    CHECK.says("recipe = digit \":\" item { \",\" item } \"=\" amount unit [ \"@\" number ]");
    text("0:1ga=1g", 0);
    text("0:1ga,1gb=1g", 0);
    text("0:1ga=1g@1", 0);
    text("0:1ga,1gb=1/2g@1", 0);
    text("0;1ga=1g", -101);
    text("01ga=1g", -101);
    text("0:=1g", -102);
    text("0:1ga.1gb=1g", -105);
    text("0:,1ga=1g", -102);
    text("0:1ga,=1g", -106);
    text("0:1ga,,1gb=1g", -106);
    text("0:1ga>1g", -105);
    text("0:1ga1g", -105);
    text("0:1ga==1g", -106);
    text("0:1ga=g", -106);
    text("0:1ga=1@1", -107);
    text("0:1ga=1ga", -108);
    text("0:1ga=1g,1gb", -108);
    text("0:1ga=1g@", -109);
    text("0:1ga=1g@1/2", -110);
    text("0:1ga=1g@1g", -110);
    text("0:1ga=1g@1@1", -110);
    text("0:1ga@1=1g", -105);
  }

  private static void partsOfTheForm() {
    CHECK.says("item = amount unit source");
    text("0:1ga=1g", 0);
    text("0:ga=1g", -102);
    text("0:1a=1g", -103);
    text("0:1g=1g", -104);
    text("0:1ag=1g", -103);
    text("0:1gma=1g", -104);
    text("0:1gga=1g", -105);
    text("0:1gaa=1g", -105);
    text("0:1g11=1g", -105);

    CHECK.says("source = letter | digit");
    text("0:1gl=1g", 0);
    text("0:1g7=1g", 0);
    text("0:1ga7=1g", -105);
    text("0:1g7a=1g", -105);
    text("0:1g8=1g", -104);
    text("0:1gm=1g", -104);

    CHECK.says("amount = number [ \"/\" number ]");
    text("0:1/2ga=3/4g", 0);
    text("0:1/ga=1g", -104);
    text("0:/2ga=1g", -102);
    text("0:1//2ga=1g", -104);
    text("0:1/2/3ga=1g", -105);
    text("0:1:2ga=1g", -103);
    text("0:1ga=1/g", -108);
    text("0:1ga=/1g", -106);
    text("0:1ga=1/2/3g", -109);

    CHECK.says("Here { } means that the part may be repeated or left out, "
        + "[ ] that it may be left out, and | separates alternatives.");
    text("3:9ga=9g", 3);
    text("3:9ga,9gb=9g", 3);
    text("3:9ga,9g1,9gc=9g", 3);
    text("3:9ga,9g1,9gc=9/8g@7", 3);
    text("3:9/8ga=9g@7", 3);
    text("3:9ga=9g@7", 3);
  }

  private static void numbers() {
    CHECK.says("A digit is 0 to 7, a letter a to l, a unit g for grams, m for millilitres or p "
        + "for pieces, a number has 1 to 3 digits and no leading zero, so that it is not 0.");
    for (char sign = 0; sign < 128; sign++) {
      int answer = sign >= '0' && sign <= '7' ? sign - '0' : -100;
      text(sign + ":1ga=1g", answer);
      boolean isSource = sign >= '0' && sign <= '7' || sign >= 'a' && sign <= 'l';
      text("0:1g" + sign + "=1g", isSource ? 0 : -104);
      boolean isUnit = sign == 'g' || sign == 'm' || sign == 'p';
      // Behind 1 the number may go on, or the amount.
      boolean goesOn = sign >= '0' && sign <= '9' || sign == '/';
      text("0:1" + sign + "a=1g", isUnit ? 0 : goesOn ? -104 : -103);
      text("0:1ga=1" + sign, isUnit ? 0 : goesOn ? -108 : -107);
    }
    String[] right = {"1", "9", "10", "19", "90", "99", "100", "109", "190", "900", "999"};
    for (String number : right) {
      text("0:" + number + "ga=1g", 0);
      text("0:1/" + number + "ga=1g", 0);
      text("0:1ga=" + number + "g", 0);
      text("0:1ga=1/" + number + "g", 0);
      text("0:1ga=1g@" + number, 0);
    }
    Object[][] wrong = {{"0", 0}, {"00", 0}, {"01", 0}, {"007", 0}, {"1000", 3}, {"9999", 3},
        {"0999", 0}, {"-1", 0}, {"+1", 0}, {"1.5", 1}, {"1e2", 1}, {"/", 0}, {":", 0}};
    for (Object[] row : wrong) {
      int at = (Integer) row[1];
      text("0:" + row[0] + "ga=1g", -102 - at);
      text("0:1/" + row[0] + "ga=1g", -104 - at);
      text("0:1ga=" + row[0] + "g", -106 - at);
      text("0:1ga=1/" + row[0] + "g", -108 - at);
      text("0:1ga=1g@" + row[0], -109 - at);
    }
  }

  private static void items() {
    CHECK.says("A recipe has at most 6 items.");
    StringBuilder list = new StringBuilder("1ga");
    for (int items = 1; items <= 6; items++) {
      RecipeScaler x = Check.with("0:" + list + "=1g");
      CHECK.due("items", x.recipe(0, 0), items);
      CHECK.due("the last one", x.item(0, items - 1, 0), items);
      CHECK.due("none behind", x.item(0, items, 0), RecipeScaler.NONE);
      list.append(',').append(items + 1).append("g0");
    }
    text("0:" + list + "=1g", -125);
  }

  private static void meaningOfTheParts() {
    CHECK.says("The digit ahead is the number of the recipe, the sources are ingredients or "
        + "recipes, the amount behind = is the yield, the number behind @ is the area of the pan.");
    RecipeScaler x = Check.with("7:2/3ml,4p0=5/6m@789");
    CHECK.due("set of recipes", x.count(1), 128);
    int[][] due = {{2, 3, 1, 11}, {4, 1, 2, 12}};
    for (int i = 0; i < due.length; i++) {
      for (int what = 0; what < 4; what++) {
        CHECK.due("item " + i + " what " + what, x.item(7, i, what), due[i][what]);
      }
    }
    CHECK.due("yield, up", x.recipe(7, 1), 5);
    CHECK.due("yield, down", x.recipe(7, 2), 6);
    CHECK.due("yield, unit", x.recipe(7, 3), 1);
    CHECK.due("pan", x.recipe(7, 4), 789);
  }

  private static void errorPositions() {
    CHECK.says("The error position of a text is the index of its first byte with which no recipe "
        + "can continue, or its length if it ends too early;");
    text("", -100);
    String whole = "0:12/345ga,678m1=9/10p@11";
    int end = whole.indexOf('p') + 1;
    for (int length = 0; length < whole.length(); length++) {
      boolean isRecipe = length == end || length == whole.length() - 1;
      text(whole.substring(0, length), isRecipe ? 0 : -100 - length);
    }
    text(whole, 0);
    text(whole + "2", 0);
    text(whole + "23", -100 - whole.length() - 1);
    // Only the first byte that is wrong counts, also if more of them are.
    text("x:yz", -100);
    text("0:1gx=yz", -104);
    text("0:1ga=1gxyz", -108);

    CHECK.says("a seventh item is wrong at the comma ahead of it.");
    text("0:1ga,1ga,1ga,1ga,1ga,1ga,1ga=1g", -125);
    text("0:1ga,1ga,1ga,1ga,1ga,1ga,", -125);
    text("0:1ga,1ga,1ga,1ga,1ga,1ga,x", -125);
    text("0:1ga,1ga,1ga,1ga,1ga,1ga", -125);
    text("0:1ga,1ga,1ga,1ga,1ga,1gax", -125);
    text("0:1/2ga,12gb,123gc,1/23gd,12/3ge,123/456gf,1ga=1g", -142);
    text("0:1ga,1ga,1ga,1ga,1ga,1ga=1g", 0);
  }

  /** Each byte at each place of some texts, against the second writing of the document. */
  private static void eachByteOfTexts() {
    String[] texts = {"0:1ga=1g", "5:12/34m7,567pl=89/1p@23", "3:1ga,1ga,1ga,1ga,1ga,1ga=1g@999"};
    for (String text : texts) {
      for (int at = 0; at <= text.length(); at++) {
        for (char sign = 0; sign < 128; sign++) {
          String put = text.substring(0, at) + sign;
          String rest = at < text.length() ? text.substring(at + 1) : "";
          text(put + rest, inModel(put + rest));
          text(put, inModel(put));
        }
      }
    }
  }

  private static int inModel(String text) {
    PlainModel model = new PlainModel();
    for (int i = 0; i < text.length(); i++) {
      model.feed(1, text.charAt(i), 0, 0, 0, 0);
    }
    return model.read();
  }

  private static void feed() {
    CHECK.says("Appends bytes to the tape. - `n`: the number of bytes, 1 to 5; a is the first one, "
        + "b the second, and so on");
    RecipeScaler x = new RecipeScaler();
    // Bytes behind the first n are not appended, whatever they are.
    x.feed(1, '4', 'x', 'x', 'x', 'x');
    x.feed(2, ':', '1', 'x', 'x', 'x');
    x.feed(3, '2', 'g', 'a', 'x', 'x');
    x.feed(4, '=', '3', '/', '4', 'x');
    x.feed(5, 'g', '@', '5', '6', '7');
    CHECK.due("bytes", x.count(3), 15);
    CHECK.due("read", x.read(), 4);
    CHECK.due("amount", x.item(4, 0, 0), 12);
    CHECK.due("yield, up", x.recipe(4, 1), 3);
    CHECK.due("yield, down", x.recipe(4, 2), 4);
    CHECK.due("pan", x.recipe(4, 4), 567);

    CHECK.says("- `a`: a byte, 0 to 127");
    feedByte(0);
    CHECK.says("- `b`: a byte, 0 to 127");
    feedByte(1);
    CHECK.says("- `c`: a byte, 0 to 127");
    feedByte(2);
    CHECK.says("- `d`: a byte, 0 to 127");
    feedByte(3);
    CHECK.says("- `e`: a byte, 0 to 127");
    feedByte(4);

    CHECK.says("Returns the new length of the tape;");
    RecipeScaler y = new RecipeScaler();
    int length = 0;
    for (int n : new int[] {1, 2, 3, 4, 5, 1, 5, 2, 4, 3}) {
      length += n;
      CHECK.due("feed " + n, y.feed(n, 1, 2, 3, 4, 5), length);
      CHECK.due("count(3)", y.count(3), length);
    }
  }

  private static void feedByte(int at) {
    for (int value : new int[] {0, 1, 126, 127}) {
      RecipeScaler x = new RecipeScaler();
      CHECK.due("byte " + value + " at " + at, feedOne(x, 5, at, value), 5);
      CHECK.due("not appended " + value + " at " + at, feedOne(x, 1, at, value), 6);
    }
    for (int value : OUTSIDE) {
      RecipeScaler x = new RecipeScaler();
      CHECK.due("byte " + value + " at " + at, feedOne(x, 5, at, value), RecipeScaler.BAD);
      CHECK.due("nothing is appended", x.count(3), 0);
    }
  }

  /** Feeds n bytes; of the five, that at an index has a value, and the others are right ones. */
  private static int feedOne(RecipeScaler x, int n, int at, int value) {
    int[] b = {1, 1, 1, 1, 1};
    b[at] = value;
    return x.feed(n, b[0], b[1], b[2], b[3], b[4]);
  }

  private static void feedOutOfRange() {
    CHECK.says("BAD if n or any of the bytes is out of range, also of those that are not appended;");
    RecipeScaler x = new RecipeScaler();
    x.feed(1, '0', 0, 0, 0, 0);
    for (int n : new int[] {0, 6, -1, Integer.MIN_VALUE, Integer.MAX_VALUE}) {
      CHECK.due("n " + n, x.feed(n, 1, 1, 1, 1, 1), RecipeScaler.BAD);
    }
    for (int n = 1; n <= 5; n++) {
      for (int at = 0; at < 5; at++) {
        for (int value : OUTSIDE) {
          CHECK.due("n " + n + ", byte " + value + " at " + at, feedOne(x, n, at, value),
              RecipeScaler.BAD);
        }
      }
    }
    CHECK.due("the tape is as before", x.count(3), 1);
    CHECK.due("with its byte", x.read(), -101);
  }

  private static void feedFull() {
    CHECK.says("FULL if the tape would be longer than 60 bytes, and then none is appended.");
    for (int length = 54; length <= 60; length++) {
      for (int n = 1; n <= 5; n++) {
        RecipeScaler x = new RecipeScaler();
        for (int i = 0; i < length; i++) {
          x.feed(1, 'x', 0, 0, 0, 0);
        }
        boolean fits = length + n <= 60;
        CHECK.due("feed " + n + " behind " + length, x.feed(n, 1, 1, 1, 1, 1),
            fits ? length + n : RecipeScaler.FULL);
        CHECK.due("bytes behind feed " + n + " behind " + length, x.count(3),
            fits ? length + n : length);
        CHECK.due("BAD ahead of FULL", x.feed(5, 1, 1, 1, 1, -1), RecipeScaler.BAD);
        CHECK.due("n ahead of FULL", x.feed(6, 1, 1, 1, 1, 1), RecipeScaler.BAD);
        CHECK.due("no change", x.count(4), 0);
      }
    }
    RecipeScaler x = new RecipeScaler();
    Check.feed(x, "0:999/999ga,999/998gb,999/997gc,999/996gd,999/995ge=999/99");
    CHECK.due("bytes", x.count(3), 58);
    CHECK.due("too many", x.feed(3, 'g', '@', '1', 0, 0), RecipeScaler.FULL);
    CHECK.due("two", x.feed(2, '4', 'g', '1', 0, 0), 60);
    CHECK.due("without those that were too many", x.read(), 0);
    CHECK.due("emptied, it takes bytes again", x.feed(5, 1, 1, 1, 1, 1), 5);
  }

  private static void read() {
    CHECK.says("Reads the recipe on the tape, in place of what has its number.");
    RecipeScaler x = Check.with("2:1ga,2gb=3g@4", "3:1ga=1g", "2:5pc=6m");
    CHECK.due("recipes", x.count(1), 4 + 8);
    CHECK.due("items", x.recipe(2, 0), 1);
    CHECK.due("the item behind is gone", x.item(2, 1, 0), RecipeScaler.NONE);
    CHECK.due("amount", x.item(2, 0, 0), 5);
    CHECK.due("source", x.item(2, 0, 3), 2);
    CHECK.due("yield", x.recipe(2, 1), 6);
    CHECK.due("unit", x.recipe(2, 3), 1);
    CHECK.due("the pan is gone", x.recipe(2, 4), -5);
    CHECK.due("the other one stays", x.recipe(3, 0), 1);

    CHECK.says("The tape is emptied, also if the text is wrong.");
    x = new RecipeScaler();
    Check.feed(x, "0:1ga=1g");
    CHECK.due("a right text", x.read(), 0);
    CHECK.due("bytes", x.count(3), 0);
    CHECK.due("read nothing", x.read(), -100);
    Check.feed(x, "0:1gx");
    CHECK.due("a wrong text", x.read(), -104);
    CHECK.due("bytes", x.count(3), 0);
    CHECK.due("read nothing", x.read(), -100);
    Check.feed(x, "1:1ga");
    CHECK.due("a text that ends too early", x.read(), -105);
    CHECK.due("it does not go on", Check.read(x, "=1g"), -100);

    CHECK.says("Returns the number of the recipe; -100 minus the error position if the text is "
        + "wrong.");
    for (int r = 0; r < 8; r++) {
      CHECK.due("recipe " + r, Check.read(x, r + ":1ga=1g"), r);
    }
    int changes = x.count(4);
    x.back();
    CHECK.due("position 0", x.read(), -100);
    CHECK.due("position 59", Check.read(x,
        "0:999/999ga,999/998gb,999/997gc,999/996gd,999/995ge=999/9999"), -159);
    CHECK.due("position 60", Check.read(x,
        "0:999/999ga,999/998gb,999/997gc,999/996gd,999/995ge,999/999g"), -160);
    CHECK.due("a wrong text in place of a recipe", Check.read(x, "0:2gb=2g@"), -109);
    CHECK.due("leaves it", x.recipe(0, 1), 1);
    CHECK.due("and is no change", x.count(4), changes - 1);
  }

  private static void removeRecipe() {
    CHECK.says("Removes a recipe. A plan with it stays. - `recipe`: the recipe");
    RecipeScaler x = Check.with("0:1ga=1g", "7:1g0=1g");
    x.scale(7, 3, 2);
    x.removeRecipe(7);
    CHECK.due("the others", x.count(1), 1);
    CHECK.due("the plan's recipe", x.count(5), 7);
    CHECK.due("its factor, up", x.count(6), 3);
    CHECK.due("its factor, down", x.count(7), 2);
    CHECK.due("what is needed cannot be found", Check.needed(x, 0, 0), "NO");
    CHECK.due("its reason", x.reason(), 1);
    Check.read(x, "7:5ga=1g");
    CHECK.due("but with a new one", Check.needed(x, 0, 0), "15/2");
    x.removeRecipe(0);
    CHECK.due("another one does not matter", Check.needed(x, 0, 0), "15/2");

    CHECK.says("Returns the number of its items; NONE if there is no such number; "
        + "STATE if it is missing.");
    StringBuilder list = new StringBuilder("1ga");
    for (int items = 1; items <= 6; items++) {
      x = Check.with("4:" + list + "=1g");
      CHECK.due("items", x.removeRecipe(4), items);
      CHECK.due("is missing now", x.removeRecipe(4), RecipeScaler.STATE);
      CHECK.due("recipes", x.count(0), 0);
      list.append(",1ga");
    }
    for (int r : Check.NO_RECIPES) {
      CHECK.due("removeRecipe " + r, x.removeRecipe(r), RecipeScaler.NONE);
    }
    for (int r = 0; r < 8; r++) {
      CHECK.due("missing " + r, x.removeRecipe(r), RecipeScaler.STATE);
    }
    CHECK.due("changes", x.count(4), 2);
  }

  private static void recipe() {
    CHECK.says("Returns a property of a recipe. - `recipe`: the recipe - `what`: "
        + "0 the number of its items;");
    RecipeScaler x = Check.with("0:1ga=6/4g", "7:1ga,1ga,1ga,1ga,1ga,1ga=1/999m@1",
        "3:1ga,1gb=999p@999");
    CHECK.due("of 0", x.recipe(0, 0), 1);
    CHECK.due("of 7", x.recipe(7, 0), 6);
    CHECK.due("of 3", x.recipe(3, 0), 2);

    CHECK.says("1 and 2 the numerator and denominator of its yield;");
    CHECK.due("up of 0", x.recipe(0, 1), 3);
    CHECK.due("down of 0", x.recipe(0, 2), 2);
    CHECK.due("up of 7", x.recipe(7, 1), 1);
    CHECK.due("down of 7", x.recipe(7, 2), 999);
    CHECK.due("up of 3", x.recipe(3, 1), 999);
    CHECK.due("down of 3", x.recipe(3, 2), 1);

    CHECK.says("3 its unit: 0 for g, 1 for m, 2 for p;");
    CHECK.due("g", x.recipe(0, 3), 0);
    CHECK.due("m", x.recipe(7, 3), 1);
    CHECK.due("p", x.recipe(3, 3), 2);

    CHECK.says("4 the area of its pan, -5 if it has none;");
    CHECK.due("none", x.recipe(0, 4), -5);
    CHECK.due("the least", x.recipe(7, 4), 1);
    CHECK.due("the greatest", x.recipe(3, 4), 999);
  }

  private static void recipeSets() {
    CHECK.says("5 the recipes that it contains directly, bit r for the recipe r;");
    RecipeScaler x = Check.with("0:1g7,1m1,1ga,1g7=1g", "7:1p0,1pl,1g2=1g", "1:1gb=1g",
        "3:1g3=1g", "4:1ga,1gl=1g", "5:1g6=1g");
    CHECK.due("of 0", x.recipe(0, 5), 1 << 7 | 1 << 1);
    CHECK.due("of 7, a missing one, too", x.recipe(7, 5), 1 | 1 << 2);
    CHECK.due("itself", x.recipe(3, 5), 1 << 3);
    CHECK.due("none", x.recipe(4, 5), 0);

    CHECK.says("6 all recipes that it contains, directly or through others, itself if so;");
    CHECK.due("itself through another", x.recipe(0, 6), 1 << 7 | 1 << 1 | 1 | 1 << 2);
    CHECK.due("the other one", x.recipe(7, 6), 1 << 7 | 1 << 1 | 1 | 1 << 2);
    CHECK.due("itself directly", x.recipe(3, 6), 1 << 3);
    CHECK.due("none, not itself", x.recipe(1, 6), 0);
    RecipeScaler chain = Check.with("3:1g0=1g", "0:1g6=1g", "6:1g1=1g", "1:1g7=1g", "7:1g2=1g",
        "2:1g5=1g", "5:1g4=1g", "4:1gk=1g");
    CHECK.due("through six others", chain.recipe(3, 6), 255 - (1 << 3));
    Check.read(chain, "4:1gk,1g3=1g");
    CHECK.due("itself through all", chain.recipe(3, 6), 255);
    CHECK.due("the last one, too", chain.recipe(4, 6), 255);

    CHECK.says("7 the ingredients that it contains, directly or through others, "
        + "bit i for the ingredient i;");
    CHECK.due("through others", x.recipe(0, 7), 1 | 1 << 1 | 1 << 11);
    CHECK.due("directly", x.recipe(4, 7), 1 | 1 << 11);
    CHECK.due("none", x.recipe(3, 7), 0);
    CHECK.due("through seven others", chain.recipe(3, 7), 1 << 10);
    Check.read(chain, "5:1gb,1g4=1g");
    CHECK.due("those of each on the way", chain.recipe(3, 7), 1 << 1 | 1 << 10);
    for (int i = 0; i < 12; i++) {
      Check.read(x, "6:1m" + (char) ('a' + i) + "=1g");
      CHECK.due("bit " + i, x.recipe(6, 7), 1 << i);
      CHECK.due("bit " + i + " through another", x.recipe(5, 7), 1 << i);
    }

    CHECK.says("missing recipes contain nothing");
    chain.removeRecipe(7);
    CHECK.due("the missing one is contained", chain.recipe(3, 6), 1 | 1 << 6 | 1 << 1 | 1 << 7);
    CHECK.due("but not what it contained", chain.recipe(3, 7), 0);
    CHECK.due("nor directly", chain.recipe(1, 5), 1 << 7);
  }

  private static void recipeErrors() {
    CHECK.says("Returns the property; NONE if there is no such number or what is invalid; "
        + "STATE if it is missing.");
    RecipeScaler x = Check.with("4:1ga=1g");
    for (int r : Check.NO_RECIPES) {
      CHECK.due("recipe of " + r, x.recipe(r, 0), RecipeScaler.NONE);
      CHECK.due("both are wrong " + r, x.recipe(r, 8), RecipeScaler.NONE);
    }
    for (int what : new int[] {-1, 8, Integer.MIN_VALUE, Integer.MAX_VALUE}) {
      CHECK.due("what " + what, x.recipe(4, what), RecipeScaler.NONE);
      CHECK.due("NONE ahead of STATE, " + what, x.recipe(5, what), RecipeScaler.NONE);
    }
    for (int what = 0; what < 8; what++) {
      CHECK.due("missing, what " + what, x.recipe(5, what), RecipeScaler.STATE);
    }
    CHECK.due("recipe is no change", x.count(4), 1);
  }

  private static void item() {
    CHECK.says("Returns a property of an item. - `recipe`: the recipe - `item`: the item, from 0");
    RecipeScaler x = Check.with("7:1ga,2ga,3ga,4ga,5ga,6ga=1g", "2:4/6g7,998/4ml=1g",
        "0:999/999p0=1g");
    for (int i = 0; i < 6; i++) {
      CHECK.due("item " + i, x.item(7, i, 0), i + 1);
    }

    CHECK.says("- `what`: 0 and 1 the numerator and denominator of its amount;");
    CHECK.due("4/6, up", x.item(2, 0, 0), 2);
    CHECK.due("4/6, down", x.item(2, 0, 1), 3);
    CHECK.due("998/4, up", x.item(2, 1, 0), 499);
    CHECK.due("998/4, down", x.item(2, 1, 1), 2);
    CHECK.due("999/999, up", x.item(0, 0, 0), 1);
    CHECK.due("999/999, down", x.item(0, 0, 1), 1);

    CHECK.says("2 its unit, as for recipe;");
    CHECK.due("g", x.item(2, 0, 2), 0);
    CHECK.due("m", x.item(2, 1, 2), 1);
    CHECK.due("p", x.item(0, 0, 2), 2);

    CHECK.says("3 its source: the ingredient, or 12 plus the recipe");
    CHECK.due("ingredient 0", x.item(7, 0, 3), 0);
    CHECK.due("ingredient 11", x.item(2, 1, 3), 11);
    CHECK.due("recipe 0", x.item(0, 0, 3), 12);
    CHECK.due("recipe 7", x.item(2, 0, 3), 19);

    CHECK.says("Returns the property; NONE if there is no such number or what is invalid; "
        + "STATE if the recipe is missing; NONE if there is no such item.");
    for (int r : Check.NO_RECIPES) {
      CHECK.due("item of " + r, x.item(r, 0, 0), RecipeScaler.NONE);
    }
    for (int what : new int[] {-1, 4, Integer.MIN_VALUE, Integer.MAX_VALUE}) {
      CHECK.due("what " + what, x.item(7, 0, what), RecipeScaler.NONE);
      CHECK.due("NONE ahead of STATE, " + what, x.item(5, 0, what), RecipeScaler.NONE);
    }
    for (int i : new int[] {-1, 6, 7, Integer.MIN_VALUE, Integer.MAX_VALUE}) {
      CHECK.due("item " + i, x.item(7, i, 0), RecipeScaler.NONE);
      CHECK.due("STATE ahead of NONE, " + i, x.item(5, i, 0), RecipeScaler.STATE);
    }
    CHECK.due("a second item of one", x.item(0, 1, 0), RecipeScaler.NONE);
    CHECK.due("missing", x.item(5, 0, 0), RecipeScaler.STATE);
    CHECK.due("item is no change", x.count(4), 3);
  }
}
