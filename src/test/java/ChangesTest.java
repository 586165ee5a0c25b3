/** Promises 27 to 30: undoing changes, the snapshot, and the counts. */
public final class ChangesTest {
  private static final Check CHECK = new Check("ChangesTest");

  public static void main(String[] args) {
    eachChange();
    atMostEight();
    backAndOn();
    backLeavesTheRest();
    errorsAreNoChanges();
    image();
    imageIsOneOf();
    undoLeavesTheRest();
    snapshotIsApart();
    count();
    CHECK.end();
  }

  /** Everything of an object that a change can change, in one text. */
  private static String all(RecipeScaler x) {
    StringBuilder text = new StringBuilder();
    for (int what = 0; what < 3; what++) {
      text.append(x.count(what)).append(' ');
    }
    for (int what = 5; what < 52; what++) {
      text.append(x.count(what)).append(' ');
    }
    for (int r = 0; r < 8; r++) {
      for (int what = 0; what < 8; what++) {
        text.append(x.recipe(r, what)).append(' ');
      }
      for (int i = 0; i < 6; i++) {
        for (int what = 0; what < 4; what++) {
          text.append(x.item(r, i, what)).append(' ');
        }
      }
    }
    for (int i = 0; i < 12; i++) {
      text.append(x.needed(i, 0, 0)).append('/').append(x.needed(i, 0, 1)).append(' ');
      text.append(x.needed(i, 1, 0)).append('/').append(x.needed(i, 1, 1)).append(' ');
      for (int what : new int[] {0, 1, 2, 3, 10, 11, 12}) {
        text.append(x.shopping(i, what)).append(' ');
      }
    }
    for (int s = 0; s < 6; s++) {
      text.append(x.applied(s, 0)).append(' ').append(x.applied(s, 1)).append(' ');
    }
    text.append(x.risk(0)).append(' ').append(x.risk(1));
    return text.toString();
  }

  private static RecipeScaler furnished() {
    RecipeScaler x = Check.with("0:2ga,3mb,1pc=4g@20", "1:5gd=1g");
    x.density(1, 1, 2);
    x.weight(2, 3, 1);
    x.pack(0, 3, 5);
    x.pack(1, 3, 5);
    x.pack(2, 5, 5);
    x.pack(4, 5, 5);
    x.substitute(0, 4, 2, 1, 1, 0);
    x.allergens(0, 1, 0);
    x.scale(0, 7, 2);
    x.image();
    x.undo();
    return x;
  }

  private static int change(RecipeScaler x, int number) {
    switch (number) {
      case 0:
        return x.density(1, 3, 2);
      case 1:
        return x.weight(2, -1, 1);
      case 2:
        return x.allergens(2, 3, 4);
      case 3:
        return x.stock(3, 17);
      case 4:
        return x.pack(3, 17, 9);
      case 5:
        return x.removePack(0);
      case 6:
        return Check.read(x, "7:1gk=1g");
      case 7:
        return Check.read(x, "0:1gk=1g");
      case 8:
        return x.removeRecipe(0);
      case 9:
        return x.substitute(1, 5, 1, 1, 0, 0);
      case 10:
        return x.removeSubstitution(0);
      case 11:
        return x.scale(1, 1, 1);
      case 12:
        return x.pan(0, 7);
      default:
        return x.buy();
    }
  }

  private static void eachChange() {
    for (int number = 0; number < 14; number++) {
      RecipeScaler x = furnished();
      String before = all(x);
      CHECK.isTrue("change " + number + " is made", change(x, number) >= 0);
      CHECK.due("change " + number + " counts", x.count(4), 1);
      CHECK.isTrue("change " + number + " is seen", !all(x).equals(before));
      CHECK.due("change " + number + " is undone", x.back(), 0);
      CHECK.isTrue("all is as ahead of change " + number, all(x).equals(before));
      CHECK.due("no other behind change " + number, x.back(), RecipeScaler.STATE);
      CHECK.isTrue("change " + number + " is made again", change(x, number) >= 0);
    }
    RecipeScaler x = furnished();
    int known = x.density(1, 1, 2) + x.weight(2, 3, 1) + x.allergens(0, 1, 0) + x.stock(0, 0);
    CHECK.due("nothing new", known, 3);
    CHECK.due("are changes, too", x.count(4), 4);
  }

  private static void atMostEight() {
    RecipeScaler x = new RecipeScaler();
    for (int i = 1; i <= 20; i++) {
      x.stock(0, i);
      CHECK.due("changes behind " + i, x.count(4), Math.min(i, 8));
    }
    for (int i = 7; i >= 0; i--) {
      CHECK.due("back to " + i, x.back(), i);
      CHECK.due("the stock", x.count(20), 12 + i);
      CHECK.due("count(4)", x.count(4), i);
    }
    CHECK.due("no ninth", x.back(), RecipeScaler.STATE);
    CHECK.due("nothing is undone", x.count(20), 12);
  }

  private static void backAndOn() {
    RecipeScaler x = new RecipeScaler();
    x.stock(0, 1);
    x.stock(0, 2);
    x.stock(0, 3);
    CHECK.due("back", x.back(), 2);
    CHECK.due("back", x.back(), 1);
    x.stock(0, 4);
    CHECK.due("a new change", x.count(4), 2);
    CHECK.due("back", x.back(), 1);
    CHECK.due("to the first", x.count(20), 1);
    CHECK.due("back", x.back(), 0);
    CHECK.due("to the beginning", x.count(20), 0);
  }

  private static void backLeavesTheRest() {
    RecipeScaler x = Check.with("0:1g7=1g");
    x.scale(0, 1, 1);
    Check.feed(x, "1:1ga");
    CHECK.due("back", x.back(), 1);
    CHECK.due("the reason stays", x.reason(), 1);
    CHECK.due("the tape stays", x.count(3), 5);
    CHECK.due("back", x.back(), 0);
    CHECK.due("the tape of a read is not fed again", x.count(3), 5);
    Check.feed(x, "=1g");
    CHECK.due("read", x.read(), 1);
    x.image();
    x.stock(0, 5);
    CHECK.due("image is no change", x.count(4), 2);
    CHECK.due("back", x.back(), 1);
    CHECK.due("back", x.back(), 0);
    CHECK.due("the snapshot stays", x.undo(), 1);
    CHECK.due("with its recipe", x.count(1), 2);
  }

  private static void errorsAreNoChanges() {
    RecipeScaler x = furnished();
    String before = all(x);
    int[] wrong = {x.density(0, 1, 0), x.weight(0, 1, 0), x.allergens(0, 256, 0), x.stock(0, -1),
        x.pack(0, 0, 0), x.removePack(11), Check.read(x, "0:1ga,=1g"), x.removeRecipe(5),
        x.substitute(0, 0, 1, 1, 0, 0), x.removeSubstitution(5), x.scale(0, 0, 1), x.pan(0, 0),
        x.scale(5, 1, 1), x.pan(1, 1), x.back(), x.feed(0, 0, 0, 0, 0, 0)};
    for (int i = 0; i < wrong.length; i++) {
      CHECK.isTrue("an error " + i, wrong[i] < 0);
    }
    CHECK.due("no changes", x.count(4), 0);
    CHECK.isTrue("nothing is changed", all(x).equals(before));
  }

  private static void image() {
    RecipeScaler x = furnished();
    String before = all(x);
    CHECK.due("image", x.image(), 2);
    for (int number = 0; number < 14; number++) {
      change(x, number);
      CHECK.due("undo", x.undo(), 2);
      CHECK.isTrue("all is as ahead of change " + number, all(x).equals(before));
      CHECK.due("no changes behind undo", x.count(4), 0);
      CHECK.due("no back behind undo", x.back(), RecipeScaler.STATE);
    }
    for (int number = 0; number < 13; number++) {
      change(x, number);
    }
    CHECK.due("undo", x.undo(), 2);
    CHECK.isTrue("all is as ahead of all changes", all(x).equals(before));
  }

  private static void imageIsOneOf() {
    RecipeScaler x = new RecipeScaler();
    CHECK.due("no snapshot", x.undo(), RecipeScaler.STATE);
    CHECK.due("image of nothing", x.image(), 0);
    Check.read(x, "3:1ga=1g");
    Check.read(x, "3:1gb=1g");
    Check.read(x, "4:1gb=1g");
    CHECK.due("undo", x.undo(), 0);
    CHECK.due("no recipes", x.count(1), 0);
    Check.read(x, "5:1ga=1g");
    CHECK.due("in place of the earlier one", x.image(), 1);
    x.removeRecipe(5);
    CHECK.due("undo", x.undo(), 1);
    CHECK.due("undo again", x.undo(), 1);
    CHECK.due("its recipe", x.count(1), 32);
  }

  private static void undoLeavesTheRest() {
    RecipeScaler x = Check.with("0:1g7=1g");
    x.image();
    x.scale(0, 1, 1);
    Check.feed(x, "1:1ga");
    CHECK.due("undo", x.undo(), 1);
    CHECK.due("the plan is gone", x.count(5), -5);
    CHECK.due("the reason stays", x.reason(), 1);
    CHECK.due("the tape stays", x.count(3), 5);
    x.stock(0, 1);
    x.image();
    CHECK.due("image leaves the changes", x.count(4), 1);
  }

  private static void snapshotIsApart() {
    RecipeScaler x = furnished();
    x.stock(5, 1);
    x.image();
    String before = all(x);
    CHECK.due("back behind the image", x.back(), 0);
    x.pack(5, 1, 1);
    x.undo();
    CHECK.isTrue("the snapshot has the change", all(x).equals(before));
    x.undo();
    change(x, 5);
    change(x, 10);
    change(x, 2);
    x.undo();
    CHECK.isTrue("changes behind undo do not reach it", all(x).equals(before));
  }

  private static void count() {
    RecipeScaler x = furnished();
    Check.read(x, "7:1ga=1g");
    x.pan(0, 30);
    x.stock(0, 999999);
    x.stock(11, 3);
    x.pack(11, 1, 1);
    x.pack(4, 1, 1);
    Check.feed(x, "1234567");
    int[] due = {3, 131, 1, 7, 6, 0, 3, 2};
    for (int what = 0; what < due.length; what++) {
      CHECK.due("count(" + what + ")", x.count(what), due[what]);
    }
    int[] stocks = {999999, 0, 0, 0, 0, 0, 0, 0, 0, 0, 0, 3};
    int[] packs = {1, 1, 1, 0, 2, 0, 0, 0, 0, 0, 0, 1};
    for (int i = 0; i < 12; i++) {
      CHECK.due("stock of " + i, x.count(20 + i), stocks[i]);
      CHECK.due("packs of " + i, x.count(40 + i), packs[i]);
    }
    for (int what : new int[] {-1, 8, 19, 32, 39, 52, Integer.MIN_VALUE, Integer.MAX_VALUE}) {
      CHECK.due("count(" + what + ")", x.count(what), RecipeScaler.NONE);
    }
  }
}
