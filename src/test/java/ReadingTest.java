/** Promises 1 to 4, 16 and 17: a new object, the tape, and the recipes that are read from it. */
public final class ReadingTest {
  private static final Check CHECK = new Check("ReadingTest");

  public static void main(String[] args) {
    newObject();
    constants();
    feed();
    feedOutOfRange();
    readRightTexts();
    readWrongTexts();
    readReplaces();
    readEmptiesTheTape();
    removeRecipe();
    recipe();
    recipeSets();
    item();
    CHECK.end();
  }

  private static void newObject() {
    RecipeScaler x = new RecipeScaler();
    for (int what = 0; what <= 4; what++) {
      CHECK.due("new: count(" + what + ")", x.count(what), 0);
    }
    for (int what = 5; what <= 7; what++) {
      CHECK.due("new: count(" + what + ")", x.count(what), -5);
    }
    for (int i = 0; i < 12; i++) {
      CHECK.due("new: stock " + i, x.count(20 + i), 0);
      CHECK.due("new: packs " + i, x.count(40 + i), 0);
      CHECK.due("new: allergens " + i, x.allergens(i, 0, 0), 0);
      CHECK.due("new: density " + i, x.density(i, -1, 1), 0);
      CHECK.due("new: weight " + i, x.weight(i, -1, 1), 0);
    }
    for (int r = 0; r < 8; r++) {
      CHECK.due("new: recipe " + r, x.recipe(r, 0), RecipeScaler.STATE);
    }
    x = new RecipeScaler();
    CHECK.due("new: reason", x.reason(), -5);
    CHECK.due("new: back", x.back(), RecipeScaler.STATE);
    CHECK.due("new: undo", x.undo(), RecipeScaler.STATE);
    CHECK.due("new: buy", x.buy(), RecipeScaler.STATE);
    RecipeScaler other = Check.with("0:1ga=1g");
    CHECK.due("new: another object's recipes", x.count(0), 0);
    CHECK.due("new: its own recipes", other.count(0), 1);
  }

  private static void constants() {
    CHECK.due("NONE", RecipeScaler.NONE, -1);
    CHECK.due("BAD", RecipeScaler.BAD, -2);
    CHECK.due("STATE", RecipeScaler.STATE, -3);
    CHECK.due("FULL", RecipeScaler.FULL, -4);
    CHECK.due("NO", RecipeScaler.NO, Long.MIN_VALUE);
  }

  private static void feed() {
    RecipeScaler x = new RecipeScaler();
    CHECK.due("feed 1", x.feed(1, '0', 0, 0, 0, 0), 1);
    CHECK.due("feed 2", x.feed(2, ':', '1', 0, 0, 0), 3);
    CHECK.due("feed 3", x.feed(3, 'g', 'a', '=', 0, 0), 6);
    CHECK.due("feed 4", x.feed(4, '1', '2', '/', '5', 0), 10);
    CHECK.due("feed 5", x.feed(5, 'g', '@', '7', '8', '9'), 15);
    CHECK.due("count(3)", x.count(3), 15);
    CHECK.due("read what was fed", x.read(), 0);
    CHECK.due("its yield", x.recipe(0, 1) * 1000 + x.recipe(0, 2), 12005);
    CHECK.due("its pan", x.recipe(0, 4), 789);

    for (int i = 1; i <= 11; i++) {
      CHECK.due("feed to " + 5 * i, x.feed(5, 0, 127, 0, 127, 0), 5 * i);
    }
    CHECK.due("feed to 58", x.feed(3, 1, 1, 1, 1, 1), 58);
    CHECK.due("feed above 60", x.feed(3, 1, 1, 1, 1, 1), RecipeScaler.FULL);
    CHECK.due("nothing appended", x.count(3), 58);
    CHECK.due("feed to 60", x.feed(2, 1, 1, 1, 1, 1), 60);
    CHECK.due("feed at 60", x.feed(1, 1, 1, 1, 1, 1), RecipeScaler.FULL);
    CHECK.due("BAD ahead of FULL", x.feed(1, 1, 1, 1, 1, 128), RecipeScaler.BAD);
    CHECK.due("feed is no change", x.count(4), 1);
  }

  private static void feedOutOfRange() {
    RecipeScaler x = new RecipeScaler();
    for (int n : new int[] {0, 6, -1, Integer.MIN_VALUE, Integer.MAX_VALUE}) {
      CHECK.due("feed n " + n, x.feed(n, 1, 1, 1, 1, 1), RecipeScaler.BAD);
    }
    for (int at = 0; at < 5; at++) {
      for (int wrong : new int[] {-1, 128, Integer.MIN_VALUE, Integer.MAX_VALUE}) {
        int[] b = {1, 1, 1, 1, 1};
        b[at] = wrong;
        CHECK.due("feed byte " + wrong + " at " + at,
            x.feed(1, b[0], b[1], b[2], b[3], b[4]), RecipeScaler.BAD);
      }
    }
    CHECK.due("nothing appended", x.count(3), 0);
  }

  private static void readRightTexts() {
    String[] texts = {"0:1ga=1g", "7:999pl=999p", "3:1m7=1m@1", "1:10g0,100/999mb=20/3p@999",
        "2:1ga,1gb,1gc,1gd,1ge,1g5=1g", "4:1ga,1ga=1g@10", "5:1/1ga=1/1g"};
    for (String text : texts) {
      CHECK.due("read " + text, Check.read(new RecipeScaler(), text), text.charAt(0) - '0');
    }
  }

  private static void readWrongTexts() {
    Object[][] texts = {
        {"", 0}, {"8", 0}, {"a:1ga=1g", 0}, {"/", 0}, {"0", 1}, {"01:1ga=1g", 1}, {"0=1g", 1},
        {"0:", 2}, {"0:ga=1g", 2}, {"0:0ga=1g", 2}, {"0:-1ga=1g", 2}, {"0:a", 2}, {"0::", 2},
        {"0:1", 3}, {"0:1a=1g", 3}, {"0:1x", 3}, {"0:1:", 3}, {"0:12", 4}, {"0:123", 5},
        {"0:1234ga=1g", 5}, {"0:1/", 4}, {"0:1/0ga=1g", 4}, {"0:1/ga=1g", 4}, {"0:1/2/3ga", 5},
        {"0:1/1000ga", 7}, {"0:1/23", 6}, {"0:1g", 4}, {"0:1g8=1g", 4}, {"0:1gm=1g", 4},
        {"0:1g`", 4}, {"0:1gg=1", 7}, {"0:1ga", 5}, {"0:1gab", 5}, {"0:1ga;", 5}, {"0:1ga,", 6},
        {"0:1ga,=1g", 6}, {"0:1ga,,", 6}, {"0:1ga=", 6}, {"0:1ga=g", 6}, {"0:1ga=0g", 6},
        {"0:1ga=1", 7}, {"0:1ga=1x", 7}, {"0:1ga=1a", 7}, {"0:1ga=1ga", 8}, {"0:1ga=1g,", 8},
        {"0:1ga=1g=", 8}, {"0:1ga=1g@", 9}, {"0:1ga=1g@0", 9}, {"0:1ga=1g@a", 9},
        {"0:1ga=1g@1234", 12}, {"0:1ga=1g@1/2", 10}, {"0:1ga=1g@12g", 11}, {"0:1ga=1g@1@1", 10},
        {"0:1ga=1g ", 8}, {" 0:1ga=1g", 0}, {"0: 1ga=1g", 2},
        {"0:1ga,1ga,1ga,1ga,1ga,1ga,1ga=1g", 25}, {"0:1ga,1ga,1ga,1ga,1ga,1ga", 25},
        {"0:1ga,1ga,1ga,1ga,1ga,1ga,", 25}, {"0:1ga=1/1000g", 11}, {"0:1ga=1/g", 8}};
    for (Object[] row : texts) {
      String text = (String) row[0];
      RecipeScaler x = new RecipeScaler();
      CHECK.due("read " + text, Check.read(x, text), -100 - (Integer) row[1]);
      CHECK.due("no recipe by " + text, x.count(0), 0);
      CHECK.due("no change by " + text, x.count(4), 0);
      CHECK.due("an empty tape behind " + text, x.count(3), 0);
    }
    RecipeScaler x = new RecipeScaler();
    x.feed(5, 0, 0, 0, 0, 0);
    CHECK.due("read byte 0", x.read(), -100);
    x.feed(2, '0', 127, 0, 0, 0);
    CHECK.due("read byte 127", x.read(), -101);
    StringBuilder full = new StringBuilder("0:");
    for (int i = 0; i < 5; i++) {
      full.append("999/999ga,");
    }
    full.append("99/99gbx");
    CHECK.due("feed a full tape", Check.feed(x, full.toString()), 60);
    CHECK.due("read a full tape", x.read(), -159);
    full.setLength(59);
    full.append('=');
    Check.feed(x, full.toString());
    CHECK.due("a full tape that ends too early", x.read(), -160);
  }

  private static void readReplaces() {
    RecipeScaler x = Check.with("2:1ga,2gb=3g@4", "2:5pc=6m");
    CHECK.due("one recipe", x.count(0), 1);
    CHECK.due("items", x.recipe(2, 0), 1);
    CHECK.due("yield", x.recipe(2, 1), 6);
    CHECK.due("unit", x.recipe(2, 3), 1);
    CHECK.due("no pan any more", x.recipe(2, 4), -5);
    CHECK.due("second item gone", x.item(2, 1, 0), RecipeScaler.NONE);
    CHECK.due("two changes", x.count(4), 2);
    CHECK.due("a wrong text", Check.read(x, "2:1ga"), -105);
    CHECK.due("leaves the recipe", x.recipe(2, 1), 6);
    x.weight(2, 1, 1);
    CHECK.due("plan", x.scale(2, 1, 1), 1);
    CHECK.due("read below a plan", Check.read(x, "2:7gd=1g"), 2);
    CHECK.due("the plan stays", x.count(5), 2);
    CHECK.due("and follows", x.needed(3, 0, 0), 7);
    CHECK.due("the old item is not needed", x.needed(2, 0, 0), 0);
  }

  private static void readEmptiesTheTape() {
    RecipeScaler x = Check.with("0:1ga=1g");
    CHECK.due("empty behind a right text", x.count(3), 0);
    CHECK.due("read again", x.read(), -100);
    CHECK.due("feed starts anew", Check.feed(x, "1:2"), 3);
    CHECK.due("wrong", x.read(), -103);
    CHECK.due("empty behind a wrong text", x.count(3), 0);
  }

  private static void removeRecipe() {
    RecipeScaler x = Check.with("0:1ga,2gb,3gc=1g", "7:1g0=1g");
    for (int r : new int[] {-1, 8, Integer.MIN_VALUE, Integer.MAX_VALUE}) {
      CHECK.due("removeRecipe " + r, x.removeRecipe(r), RecipeScaler.NONE);
    }
    CHECK.due("removeRecipe 3", x.removeRecipe(3), RecipeScaler.STATE);
    CHECK.due("no change", x.count(4), 2);
    x.scale(0, 1, 2);
    CHECK.due("removeRecipe 0", x.removeRecipe(0), 3);
    CHECK.due("removeRecipe 0 again", x.removeRecipe(0), RecipeScaler.STATE);
    CHECK.due("the others", x.count(1), 128);
    CHECK.due("a change", x.count(4), 4);
    CHECK.due("the plan stays", x.count(5), 0);
    CHECK.due("its factor", x.count(6) * 10 + x.count(7), 12);
    CHECK.due("but can't be found", x.needed(0, 0, 0), RecipeScaler.NO);
    CHECK.due("removeRecipe 7", x.removeRecipe(7), 1);
    CHECK.due("none left", x.count(0), 0);
  }

  private static void recipe() {
    RecipeScaler x = Check.with("0:1ga,2/4gb=6/4g@50", "1:3m0=999m", "2:1p1,1ga=2/8p@999");
    CHECK.due("items of 0", x.recipe(0, 0), 2);
    CHECK.due("items of 1", x.recipe(1, 0), 1);
    CHECK.due("lowest terms, up", x.recipe(0, 1), 3);
    CHECK.due("lowest terms, down", x.recipe(0, 2), 2);
    CHECK.due("whole, up", x.recipe(1, 1), 999);
    CHECK.due("whole, down", x.recipe(1, 2), 1);
    CHECK.due("unit g", x.recipe(0, 3), 0);
    CHECK.due("unit m", x.recipe(1, 3), 1);
    CHECK.due("unit p", x.recipe(2, 3), 2);
    CHECK.due("pan", x.recipe(0, 4), 50);
    CHECK.due("no pan", x.recipe(1, 4), -5);
    CHECK.due("great pan", x.recipe(2, 4), 999);
    for (int r : new int[] {-1, 8, Integer.MIN_VALUE, Integer.MAX_VALUE}) {
      CHECK.due("recipe " + r, x.recipe(r, 0), RecipeScaler.NONE);
    }
    for (int what : new int[] {-1, 8, Integer.MIN_VALUE, Integer.MAX_VALUE}) {
      CHECK.due("what " + what, x.recipe(0, what), RecipeScaler.NONE);
      CHECK.due("what " + what + " of a missing one", x.recipe(5, what), RecipeScaler.NONE);
    }
    for (int what = 0; what < 8; what++) {
      CHECK.due("missing, what " + what, x.recipe(3, what), RecipeScaler.STATE);
    }
    CHECK.due("recipe is no change", x.count(4), 3);
  }

  private static void recipeSets() {
    RecipeScaler x = Check.with("0:1g1,1ga,1g1,1g6=1g", "1:1g2,1gl=1g", "2:1g3,1gb=1g",
        "3:1g2,1gc=1g", "5:1g5=1g", "7:1gk,1gj,1g4=1g");
    CHECK.due("direct recipes, missing ones too", x.recipe(0, 5), 1 << 1 | 1 << 6);
    CHECK.due("all recipes", x.recipe(0, 6), 1 << 1 | 1 << 2 | 1 << 3 | 1 << 6);
    CHECK.due("all ingredients", x.recipe(0, 7), 1 | 1 << 11 | 1 << 1 | 1 << 2);
    CHECK.due("itself through another", x.recipe(2, 6), 1 << 2 | 1 << 3);
    CHECK.due("itself directly", x.recipe(5, 6), 1 << 5);
    CHECK.due("no ingredients", x.recipe(5, 7), 0);
    CHECK.due("a missing one", x.recipe(7, 6), 1 << 4);
    CHECK.due("two ingredients", x.recipe(7, 7), 1 << 10 | 1 << 9);
    Check.read(x, "7:1gk=1g");
    CHECK.due("no direct recipes", x.recipe(7, 5), 0);
    CHECK.due("no recipes", x.recipe(7, 6), 0);
    RecipeScaler y = Check.with("7:1g6=1g", "6:1g5=1g", "5:1g4=1g", "4:1g3=1g", "3:1g2=1g",
        "2:1g1=1g", "1:1g0=1g", "0:1gi=1g");
    CHECK.due("a long chain", y.recipe(7, 6), 127);
    CHECK.due("its end", y.recipe(7, 7), 1 << 8);
    y.removeRecipe(4);
    CHECK.due("a broken chain", y.recipe(7, 6), 1 << 6 | 1 << 5 | 1 << 4);
    CHECK.due("without its end", y.recipe(7, 7), 0);
  }

  private static void item() {
    RecipeScaler x = Check.with("4:6/9ga,999pl,1/999m0,5g7=1g");
    int[][] due = {{2, 3, 0, 0}, {999, 1, 2, 11}, {1, 999, 1, 12}, {5, 1, 0, 19}};
    for (int i = 0; i < due.length; i++) {
      for (int what = 0; what < 4; what++) {
        CHECK.due("item " + i + " what " + what, x.item(4, i, what), due[i][what]);
      }
    }
    for (int r : new int[] {-1, 8, Integer.MIN_VALUE, Integer.MAX_VALUE}) {
      CHECK.due("item of " + r, x.item(r, 0, 0), RecipeScaler.NONE);
    }
    for (int what : new int[] {-1, 4, Integer.MIN_VALUE, Integer.MAX_VALUE}) {
      CHECK.due("item what " + what, x.item(4, 0, what), RecipeScaler.NONE);
      CHECK.due("missing, item what " + what, x.item(0, 0, what), RecipeScaler.NONE);
    }
    for (int i : new int[] {-1, 4, 5, 6, 7, Integer.MIN_VALUE, Integer.MAX_VALUE}) {
      CHECK.due("item " + i, x.item(4, i, 0), RecipeScaler.NONE);
      CHECK.due("missing, item " + i, x.item(0, i, 0), RecipeScaler.STATE);
    }
  }
}
