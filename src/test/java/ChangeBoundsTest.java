import java.util.ArrayList;
import java.util.List;
import java.util.function.Consumer;
import java.util.function.Supplier;
import java.util.function.ToLongFunction;

/** The words on changes, the snapshot and errors, and on promises 27 to 30. */
public final class ChangeBoundsTest {
  private static final Check CHECK = new Check("ChangeBoundsTest");
  private static final int CHANGES = Furnished.CHANGES;
  private static final List<ToLongFunction<RecipeScaler>> QUESTIONS = questions();
  // An object is asked so many of them only, since it is used for at most 512 calls.
  private static final int ASKED_AT_ONCE = 200;

  public static void main(String[] args) {
    changes();
    sameChanges();
    questionsAreNoChanges();
    atMostEight();
    back();
    backLeavesTheRest();
    backErrors();
    snapshot();
    snapshotIsApart();
    image();
    undo();
    errorsChangeNothing();
    firstErrors();
    meaningOfTheErrors();
    minusFive();
    count();
    countErrors();
    CHECK.end();
  }

  /** Questions that tell all that a change can change; the last ones change what they ask for. */
  private static List<ToLongFunction<RecipeScaler>> questions() {
    List<ToLongFunction<RecipeScaler>> all = new ArrayList<>();
    for (int what : new int[] {0, 1, 2, 5, 6, 7}) {
      all.add(x -> x.count(what));
    }
    for (int r = 0; r < 8; r++) {
      int recipe = r;
      for (int w = 0; w < 8; w++) {
        int what = w;
        all.add(x -> x.recipe(recipe, what));
        all.add(x -> x.possible(recipe, what & 1));
      }
      for (int i = 0; i < 24; i++) {
        int item = i;
        all.add(x -> x.item(recipe, item / 4, item % 4));
      }
    }
    for (int i = 0; i < 12; i++) {
      int ingredient = i;
      for (int w = 0; w < 4; w++) {
        int what = w;
        all.add(x -> x.needed(ingredient, what >> 1, what & 1));
        all.add(x -> x.shopping(ingredient, what));
        all.add(x -> x.shopping(ingredient, 10 + what));
        all.add(x -> x.again(ingredient, what & 1));
      }
      all.add(x -> x.count(20 + ingredient));
      all.add(x -> x.count(40 + ingredient));
    }
    for (int w = 0; w < 18; w++) {
      int what = w;
      all.add(x -> x.applied(what / 3, what % 3));
      all.add(x -> x.account(what % 5));
      all.add(x -> x.risk(what % 2));
      all.add(x -> x.path(what % 8, what / 8 - 1));
    }
    for (int i = 0; i < 12; i++) {
      int ingredient = i;
      all.add(x -> x.allergens(ingredient, 0, 0));
      all.add(x -> x.density(ingredient, 0, 1));
      all.add(x -> x.weight(ingredient, 0, 1));
    }
    return all;
  }

  /** All that a change can change, of an object that is made anew for each part of it. */
  private static String all(Supplier<RecipeScaler> maker) {
    StringBuilder text = new StringBuilder();
    RecipeScaler x = null;
    for (int i = 0; i < QUESTIONS.size(); i++) {
      x = i % ASKED_AT_ONCE == 0 ? maker.get() : x;
      text.append(QUESTIONS.get(i).applyAsLong(x)).append(' ');
    }
    return text.toString();
  }

  /** A furnished object behind some calls. */
  private static String behind(Consumer<RecipeScaler> calls) {
    return all(() -> {
      RecipeScaler x = Furnished.make();
      calls.accept(x);
      return x;
    });
  }

  private static void changes() {
    CHECK.says("The successful calls of density, weight, allergens, stock, pack, removePack, read, "
        + "removeRecipe, substitute, removeSubstitution, scale, pan and buy are changes,");
    String before = behind(x -> { });
    for (int i = 0; i < CHANGES; i++) {
      int number = i;
      RecipeScaler x = Furnished.make();
      CHECK.isTrue("change " + number + " is successful", Furnished.change(x, number) >= 0);
      CHECK.due("change " + number + " counts", x.count(4), 1);
      CHECK.due("change " + number + " is undone", x.back(), 0);
      CHECK.isTrue("change " + number + " is seen",
          !behind(y -> Furnished.change(y, number)).equals(before));
      CHECK.due("all is as ahead of change " + number, behind(y -> {
        Furnished.change(y, number);
        y.back();
      }), before);
    }
  }

  private static void sameChanges() {
    CHECK.says("also if nothing is another one by them.");
    RecipeScaler x = new RecipeScaler();
    List<ToLongFunction<RecipeScaler>> calls = List.of(y -> y.density(0, -1, 1),
        y -> y.weight(0, -1, 1), y -> y.allergens(0, 0, 0), y -> y.stock(0, 0));
    for (int i = 0; i < 8; i++) {
      CHECK.due("nothing is changed by " + i, calls.get(i % 4).applyAsLong(x), 0);
      CHECK.due("but it is a change", x.count(4), i + 1);
    }
    for (int i = 7; i >= 0; i--) {
      CHECK.due("that can be undone", x.back(), i);
    }
    x = Check.with("0:1ga=1g@5", "0:1ga=1g@5");
    CHECK.due("the same text", x.count(4), 2);
    x.scale(0, 1, 1);
    x.scale(0, 1, 1);
    CHECK.due("the same plan", x.count(4), 4);
    x.pan(0, 5);
    x.pan(0, 5);
    CHECK.due("the same plan by pans", x.count(4), 6);
    x.back();
    CHECK.due("still planned", x.count(5), 0);
    Check.read(x, "1:1mb=1g");
    CHECK.due("a plan that cannot be found", x.scale(1, 1, 1), 0);
    CHECK.due("is a change", x.count(4), 7);
  }

  private static void questionsAreNoChanges() {
    CHECK.says("Questions change nothing");
    int last = QUESTIONS.size() - 36;
    RecipeScaler x = Furnished.make();
    String before = behind(y -> { });
    for (int i = 0; i < last; i++) {
      if (i % ASKED_AT_ONCE == 0) {
        x = Furnished.make();
        x.stock(11, 0);
      }
      QUESTIONS.get(i).applyAsLong(x);
      CHECK.due("changes behind question " + i, x.count(4), 1);
    }
    CHECK.due("all is as before", behind(y -> {
      for (int i = 0; i < last; i += 7) {
        QUESTIONS.get(i).applyAsLong(y);
      }
    }), before);
    x = Furnished.make();
    x.stock(0, 1);
    x.feed(1, 1, 1, 1, 1, 1);
    x.image();
    x.reason();
    CHECK.due("feed, image and reason are no changes either", x.count(4), 1);
  }

  private static void atMostEight() {
    CHECK.says("At most 8 changes can be undone, the latest first.");
    for (int made = 0; made <= 20; made++) {
      RecipeScaler x = new RecipeScaler();
      for (int i = 1; i <= made; i++) {
        x.stock(0, i);
      }
      int left = Math.min(made, 8);
      CHECK.due("changes behind " + made, x.count(4), left);
      for (int i = 1; i <= left; i++) {
        CHECK.due("back " + i + " of " + made, x.back(), left - i);
        CHECK.due("stock behind it", x.count(20), made - i);
        CHECK.due("count(4) behind it", x.count(4), left - i);
      }
      CHECK.due("no further one", x.back(), RecipeScaler.STATE);
      CHECK.due("stock", x.count(20), made - left);
    }
    // Ten, three of them undone, and five more: the latest eight of the twelve that are left.
    RecipeScaler x = new RecipeScaler();
    for (int i = 1; i <= 15; i++) {
      x.stock(0, i);
      for (int undone = 0; i == 10 && undone < 3; undone++) {
        x.back();
      }
    }
    CHECK.due("eight of twelve", x.count(4), 8);
    int[] due = {14, 13, 12, 11, 7, 6, 5, 4};
    for (int i = 0; i < due.length; i++) {
      CHECK.due("back " + i + " of twelve", x.back(), 7 - i);
      CHECK.due("stock behind it", x.count(20), due[i]);
    }
    CHECK.due("no further one of twelve", x.back(), RecipeScaler.STATE);
  }

  private static void back() {
    CHECK.says("Undoes the latest change that was not undone.");
    RecipeScaler x = new RecipeScaler();
    for (int i = 1; i <= 3; i++) {
      x.stock(0, i);
    }
    x.back();
    CHECK.due("the third", x.count(20), 2);
    x.back();
    CHECK.due("the second", x.count(20), 1);
    x.stock(1, 5);
    x.stock(1, 6);
    CHECK.due("with new ones", x.count(4), 3);
    x.back();
    CHECK.due("the latest one", x.count(21), 5);
    x.back();
    CHECK.due("the one before", x.count(21), 0);
    CHECK.due("the first one is left", x.count(20), 1);
    x.back();
    CHECK.due("the first one", x.count(20), 0);
    for (int first = 0; first < 13; first++) {
      int number = first;
      CHECK.due("two changes, one undone: " + number, behind(y -> {
        Furnished.change(y, number);
        Furnished.change(y, (number + 3) % 13);
        y.back();
      }), behind(y -> Furnished.change(y, number)));
    }
  }

  /** The tape, the latest refusal and the snapshot are not undone: no change is made to them. */
  private static void backLeavesTheRest() {
    CHECK.says("Undoes the latest change");
    RecipeScaler x = Check.planned("0:1g7=1g");
    x.image();
    Check.feed(x, "1:1ga");
    CHECK.due("scale is undone", x.back(), 1);
    CHECK.due("its reason stays", x.reason(), 1);
    CHECK.due("the tape stays", x.count(3), 5);
    CHECK.due("read is undone", x.back(), 0);
    CHECK.due("its text is not fed again", x.count(3), 5);
    Check.feed(x, "=1g");
    CHECK.due("the tape is read", x.read(), 1);
    x.back();
    CHECK.due("and stays empty", x.count(3), 0);
    CHECK.due("the snapshot stays", x.undo(), 1);
    CHECK.due("with its plan", x.count(5), 0);
  }

  private static void backErrors() {
    CHECK.says("Returns the number of changes that can still be undone; STATE if there is none.");
    RecipeScaler x = new RecipeScaler();
    CHECK.due("a new object", x.back(), RecipeScaler.STATE);
    x.feed(1, 1, 1, 1, 1, 1);
    x.image();
    x.stock(12, 1);
    CHECK.due("no change yet", x.back(), RecipeScaler.STATE);
    x.stock(0, 1);
    x.stock(0, 2);
    CHECK.due("of two", x.back(), 1);
    CHECK.due("of one", x.back(), 0);
    CHECK.due("of none", x.back(), RecipeScaler.STATE);
    CHECK.due("back is no change that can be undone", x.count(4), 0);
  }

  private static void snapshot() {
    CHECK.says("The snapshot contains everything but itself, the tape, the latest refusal and the "
        + "changes that can be undone.");
    String before = behind(x -> { });
    for (int i = 0; i < CHANGES; i++) {
      int number = i;
      CHECK.due("everything as ahead of change " + i, behind(x -> {
        Furnished.change(x, number);
        x.undo();
      }), before);
      CHECK.due("everything as behind change " + i, behind(x -> {
        Furnished.change(x, number);
        x.image();
        Furnished.change(x, (number + 5) % CHANGES);
        Furnished.change(x, (number + 6) % CHANGES);
        x.undo();
      }), behind(x -> Furnished.change(x, number)));
    }
    RecipeScaler x = Check.with("0:1g7=1g");
    Check.feed(x, "1:1");
    x.image();
    CHECK.due("no plan yet", x.count(5), -5);
    x.scale(0, 1, 1);
    x.stock(0, 1);
    Check.feed(x, "ga");
    x.undo();
    CHECK.due("the plan is contained", x.count(5), -5);
    CHECK.due("the tape is not", x.count(3), 5);
    CHECK.due("the latest refusal is not", x.reason(), 1);
    CHECK.due("the changes are not", x.count(4), 0);
    x.undo();
    CHECK.due("nor is the snapshot, which stays", x.count(1), 1);
    Check.feed(x, "=1g");
    CHECK.due("the tape has all its bytes", x.read(), 1);
  }

  private static void snapshotIsApart() {
    CHECK.says("Takes a snapshot,");
    for (int i = 0; i < CHANGES; i++) {
      int number = i;
      // Changes behind the image, behind undo, and those that are undone do not reach it.
      CHECK.due("the snapshot is apart from change " + i, behind(x -> {
        x.image();
        Furnished.change(x, number);
        x.undo();
        Furnished.change(x, (number + 1) % CHANGES);
        x.back();
        Furnished.change(x, number);
        x.undo();
      }), behind(x -> { }));
      CHECK.due("back behind the image, then undo " + i, behind(x -> {
        Furnished.change(x, number);
        x.image();
        x.back();
        x.undo();
      }), behind(x -> Furnished.change(x, number)));
    }
  }

  private static void image() {
    CHECK.says("Takes a snapshot, in place of an earlier one. Returns the number of recipes.");
    RecipeScaler x = new RecipeScaler();
    CHECK.due("none", x.image(), 0);
    for (int r = 0; r < 8; r++) {
      Check.read(x, r + ":1ga=1g");
      CHECK.due("recipes", x.image(), r + 1);
      CHECK.due("image is no change", x.count(4), r + 1);
    }
    x.removeRecipe(3);
    CHECK.due("seven", x.image(), 7);
    x.removeRecipe(4);
    CHECK.due("the latest image", x.undo(), 7);
    CHECK.due("its recipes", x.count(1), 255 - 8);
  }

  private static void undo() {
    CHECK.says("Restores the snapshot, which stays. No changes can be undone then.");
    RecipeScaler x = new RecipeScaler();
    Check.read(x, "5:1ga=1g");
    x.stock(0, 3);
    x.image();
    CHECK.due("the changes are left by image", x.count(4), 2);
    for (int i = 0; i < 4; i++) {
      x.stock(0, 10 + i);
      x.removeRecipe(5);
      CHECK.due("undo", x.undo(), 1);
      CHECK.due("its stock", x.count(20), 3);
      CHECK.due("its recipe", x.count(1), 32);
      CHECK.due("no changes", x.count(4), 0);
      CHECK.due("no back", x.back(), RecipeScaler.STATE);
    }
    x.stock(0, 7);
    CHECK.due("changes behind it can be undone", x.back(), 0);
    CHECK.due("down to it", x.count(20), 3);
    CHECK.due("and no further", x.back(), RecipeScaler.STATE);

    CHECK.says("Returns the number of recipes; STATE if there is no snapshot.");
    x = new RecipeScaler();
    CHECK.due("no snapshot", x.undo(), RecipeScaler.STATE);
    Check.read(x, "5:1ga=1g");
    CHECK.due("no snapshot", x.undo(), RecipeScaler.STATE);
    CHECK.due("leaves the recipe", x.count(1), 32);
    CHECK.due("and the change", x.count(4), 1);
    x.image();
    x.removeRecipe(5);
    CHECK.due("one recipe", x.undo(), 1);
    for (int r = 0; r < 8; r++) {
      Check.read(x, r + ":1ga=1g");
    }
    x.image();
    x.removeRecipe(7);
    CHECK.due("eight recipes", x.undo(), 8);
    x.image();
    CHECK.due("image without changes", x.undo(), 8);
  }

  /** Calls that are answered with an error code by a furnished object. */
  private static List<ToLongFunction<RecipeScaler>> errors() {
    return List.of(x -> x.density(12, 3, 1), x -> x.density(1, -2, 1), x -> x.density(1, 3, 0),
        x -> x.weight(-1, 3, 1), x -> x.weight(2, 10000, 1), x -> x.weight(2, 3, 10000),
        x -> x.allergens(12, 3, 3), x -> x.allergens(0, 256, 3), x -> x.allergens(0, 3, -1),
        x -> x.stock(12, 3), x -> x.stock(0, -1), x -> x.stock(0, 1000000),
        x -> x.pack(12, 3, 3), x -> x.pack(0, 0, 3), x -> x.pack(0, 3, 1000),
        x -> x.removePack(12), x -> x.removePack(11), x -> x.removeRecipe(8),
        x -> x.removeRecipe(7), x -> x.substitute(12, 0, 1, 1, 0, 0),
        x -> x.substitute(0, 1, 1, 1, 4, 0), x -> x.substitute(0, 0, 1, 1, 0, 0),
        x -> x.substitute(0, 1, 1, 1, 0, 1), x -> x.removeSubstitution(2), x -> x.scale(8, 1, 1),
        x -> x.scale(7, 1, 1), x -> x.scale(1, 0, 1), x -> x.scale(1, 1, 10000),
        x -> x.pan(8, 1), x -> x.pan(7, 1), x -> x.pan(1, 1), x -> x.pan(0, 0),
        x -> x.feed(0, 1, 1, 1, 1, 1), x -> x.feed(1, 1, 128, 1, 1, 1), x -> x.back(),
        x -> Check.read(x, "0:1ga"), x -> Check.read(x, "0:9gl,8gk=7m="), x -> x.read(),
        x -> x.shopping(12, 0), x -> x.shopping(11, 10), x -> x.account(5), x -> x.risk(2),
        x -> x.path(8, 0), x -> x.path(0, 99), x -> x.recipe(8, 0), x -> x.recipe(7, 0),
        x -> x.item(0, 4, 0), x -> x.count(8), x -> x.needed(12, 0, 0), x -> x.applied(2, 0),
        x -> x.again(0, 2), x -> x.possible(8, 0));
  }

  private static void errorsChangeNothing() {
    CHECK.says("A call that returns an error code leaves the state unchanged, except that read "
        + "empties the tape.");
    List<ToLongFunction<RecipeScaler>> errors = errors();
    String before = behind(x -> { });
    for (int i = 0; i < errors.size(); i++) {
      ToLongFunction<RecipeScaler> call = errors.get(i);
      RecipeScaler x = Furnished.make();
      CHECK.isTrue("error " + i, call.applyAsLong(x) < 0);
      CHECK.due("changes behind error " + i, x.count(4), 0);
      CHECK.due("tape behind error " + i, x.count(3), 0);
      CHECK.due("reason behind error " + i, x.reason(), -5);
      CHECK.due("all behind error " + i, behind(y -> call.applyAsLong(y)), before);
      // The snapshot and the changes that can be undone are left as well.
      RecipeScaler z = Furnished.make();
      z.stock(0, 1);
      z.image();
      z.stock(0, 2);
      if (call.applyAsLong(z) < 0) {
        CHECK.due("back behind error " + i, z.back(), 1);
        CHECK.due("its stock", z.count(20), 1);
        CHECK.due("undo behind error " + i, z.undo(), 2);
        CHECK.due("its stock", z.count(20), 1);
      }
    }
    RecipeScaler x = new RecipeScaler();
    CHECK.due("undo without a snapshot", x.undo(), RecipeScaler.STATE);
    x.stock(0, 1);
    x.undo();
    CHECK.due("leaves the change", x.back(), 0);
    // Limits: a full tape, three packs, six substitutions, and a plan that can't be bought for.
    for (int i = 0; i < 12; i++) {
      x.feed(5, 1, 1, 1, 1, 1);
    }
    x.feed(1, 1, 1, 1, 1, 1);
    CHECK.due("the full tape", x.count(3), 60);
    CHECK.due("read empties it", x.read(), -100);
    CHECK.due("bytes", x.count(3), 0);
    for (int i = 0; i < 4; i++) {
      x.pack(0, 1, 1);
    }
    CHECK.due("packs", x.count(40) * 10 + x.count(4), 33);
    CHECK.due("undone", x.back(), 2);
    for (int i = 0; i < 7; i++) {
      x.substitute(0, 1, 1, 1, 0, 0);
    }
    CHECK.due("substitutions", x.count(2) * 10 + x.count(4), 68);
    RecipeScaler y = Check.planned("0:1ga,1gb=1g");
    y.pack(0, 1, 1);
    CHECK.due("b has no packs", y.buy(), RecipeScaler.STATE);
    CHECK.due("a is not bought", y.count(20), 0);
    CHECK.due("the plan stays", y.count(5), 0);
    CHECK.due("changes", y.count(4), 3);
  }

  private static void firstErrors() {
    CHECK.says("If several errors apply, the one that is listed first in the @return line is "
        + "returned.");
    RecipeScaler x = Check.with("0:1ga=1g");
    for (int i = 0; i < 3; i++) {
      x.pack(0, 1, 1);
    }
    for (int i = 0; i < 12; i++) {
      x.feed(5, 1, 1, 1, 1, 1);
    }
    int[] none = {x.density(12, -2, 0), x.weight(12, -2, 0), x.allergens(12, -1, 256),
        x.stock(12, -1), x.pack(12, 0, -1), x.removePack(12), x.substitute(12, 12, 0, 0, 4, -1),
        x.substitute(0, 0, 0, 0, 4, -1), x.scale(8, 0, 0), x.pan(8, 0), x.recipe(5, 8),
        x.recipe(8, 8), x.item(5, 9, 4), x.item(8, 9, 4), x.shopping(12, 10), x.shopping(0, 13),
        x.shopping(1, 10), x.account(5), x.risk(2), x.path(8, 99)};
    for (int i = 0; i < none.length; i++) {
      CHECK.due("NONE " + i, none[i], RecipeScaler.NONE);
    }
    int[] state = {x.scale(5, 0, 0), x.pan(5, 0), x.pan(0, 0), x.item(5, 9, 0), x.path(0, 99)};
    for (int i = 0; i < state.length; i++) {
      CHECK.due("STATE " + i, state[i], RecipeScaler.STATE);
    }
    int[] bad = {x.pack(0, 0, 0), x.feed(6, 1, 1, 1, 1, 1), x.feed(1, 1, 1, 1, 1, 128)};
    for (int i = 0; i < bad.length; i++) {
      CHECK.due("BAD ahead of FULL " + i, bad[i], RecipeScaler.BAD);
    }
  }

  private static void meaningOfTheErrors() {
    CHECK.says("NONE means that a number or selector is invalid, BAD that a value is out of range, "
        + "STATE that the state forbids the call, and FULL that a limit is reached.");
    RecipeScaler x = Check.with("0:1ga=1g");
    CHECK.due("a number", x.removeRecipe(8), RecipeScaler.NONE);
    CHECK.due("a selector", x.recipe(0, 8), RecipeScaler.NONE);
    CHECK.due("a value", x.stock(0, -1), RecipeScaler.BAD);
    CHECK.due("the state", x.removeRecipe(1), RecipeScaler.STATE);
    for (int i = 0; i < 3; i++) {
      x.pack(0, 1, 1);
    }
    CHECK.due("a limit", x.pack(0, 1, 1), RecipeScaler.FULL);

    CHECK.says("Methods that return a long return NO instead.");
    RecipeScaler y = Check.with("0:1ga=1g");
    y.substitute(0, 1, 1, 1, 0, 0);
    long[] no = {y.needed(12, 0, 0), y.needed(0, 2, 0), y.needed(0, 0, 2), y.needed(0, 0, 0),
        y.applied(6, 0), y.applied(0, 3), y.applied(0, 0), y.again(12, 0), y.again(0, 2),
        y.again(0, 0), y.possible(8, 0), y.possible(0, 2), y.possible(5, 0)};
    for (int i = 0; i < no.length; i++) {
      CHECK.due("NO " + i, no[i], Long.MIN_VALUE);
    }
  }

  private static void minusFive() {
    CHECK.says("The result -5 is returned only if no error applies.");
    RecipeScaler x = Check.planned("0:1ga=1g");
    CHECK.due("no pan", x.recipe(0, 4), -5);
    CHECK.due("a missing recipe has none either", x.recipe(1, 4), RecipeScaler.STATE);
    CHECK.due("no packs", x.shopping(0, 1), -5);
    CHECK.due("no such pack", x.shopping(0, 10), RecipeScaler.NONE);
    CHECK.due("no path", x.path(0, 0), -5);
    CHECK.due("no such allergen", x.path(8, 0), RecipeScaler.NONE);
    x.removeRecipe(0);
    CHECK.due("not found", x.shopping(0, 1), RecipeScaler.STATE);
    CHECK.due("no recipe", x.path(0, 0), RecipeScaler.STATE);
    x = new RecipeScaler();
    CHECK.due("no plan, no packs", x.shopping(0, 1), RecipeScaler.STATE);
    CHECK.due("no plan", x.path(0, 0), RecipeScaler.STATE);
    CHECK.due("no reason", x.reason(), -5);
    CHECK.due("no recipe of a plan", x.count(5), -5);
  }

  private static void count() {
    CHECK.says("Returns a count. - `what`: 0 the recipes, as a number; 1 the recipes, as a set;");
    RecipeScaler x = new RecipeScaler();
    CHECK.due("none", x.count(0), 0);
    int set = 0;
    int[] order = {5, 0, 7, 2, 1, 6, 3, 4};
    for (int i = 0; i < 8; i++) {
      Check.read(x, order[i] + ":1ga=1g@6");
      set |= 1 << order[i];
      CHECK.due("number", x.count(0), i + 1);
      CHECK.due("set", x.count(1), set);
    }

    CHECK.says("2 the substitutions; 3 the bytes on the tape; 4 the changes that can be undone;");
    for (int i = 0; i <= 6; i++) {
      CHECK.due("substitutions", x.count(2), i);
      CHECK.due("bytes", x.count(3), 10 * i);
      x.substitute(0, 1, 1, 1, 0, 0);
      x.feed(5, 1, 1, 1, 1, 1);
      x.feed(5, 1, 1, 1, 1, 1);
    }
    CHECK.due("at most 60", x.count(3), 60);
    CHECK.due("at most 8", x.count(4), 8);
    x.back();
    x.back();
    CHECK.due("changes", x.count(4), 6);
    CHECK.due("substitutions", x.count(2), 4);
    CHECK.due("new", new RecipeScaler().count(4), 0);

    CHECK.says("5 the recipe of the plan, -5 if there is none; 6 and 7 the numerator and denominator "
        + "of its factor, -5 if there is none;");
    for (int what = 5; what <= 7; what++) {
      CHECK.due("none, what " + what, x.count(what), -5);
    }
    x.scale(7, 9998, 4);
    CHECK.due("recipe", x.count(5), 7);
    CHECK.due("numerator", x.count(6), 4999);
    CHECK.due("denominator", x.count(7), 2);
    x.pan(0, 4);
    CHECK.due("recipe 0", x.count(5), 0);
    CHECK.due("numerator", x.count(6), 2);
    CHECK.due("denominator", x.count(7), 3);
    x.removeRecipe(0);
    CHECK.due("though it is missing", x.count(5), 0);
    CHECK.due("numerator", x.count(6), 2);

    CHECK.says("20 + i the stock of the ingredient i; 40 + i the number of its packs");
    for (int i = 0; i < 12; i++) {
      x.stock(i, i == 5 ? 999999 : i + 100);
      for (int k = 0; k < i % 4; k++) {
        x.pack(i, 1, 1);
      }
    }
    for (int i = 0; i < 12; i++) {
      CHECK.due("stock of " + i, x.count(20 + i), i == 5 ? 999999 : i + 100);
      CHECK.due("packs of " + i, x.count(40 + i), i % 4);
    }
  }

  private static void countErrors() {
    CHECK.says("Returns the count; NONE if what is invalid.");
    RecipeScaler x = Furnished.make();
    int[] wrong = {Integer.MIN_VALUE, -6, -5, -1, 8, 9, 18, 19, 32, 33, 38, 39, 52, 53, 60,
        Integer.MAX_VALUE};
    for (int what : wrong) {
      CHECK.due("count(" + what + ")", x.count(what), RecipeScaler.NONE);
    }
    for (int what = 0; what < 52; what++) {
      boolean isRight = what < 8 || what >= 20 && what < 32 || what >= 40;
      CHECK.isTrue("count(" + what + ")", isRight == (x.count(what) >= 0));
    }
  }
}
