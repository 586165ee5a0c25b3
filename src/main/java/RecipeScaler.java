/** A recipe scaler. The document DOC.md says what each call answers, as numbered promises. */
public final class RecipeScaler {
  public static final int NONE = -1, BAD = -2, STATE = -3, FULL = -4;
  public static final long NO = Long.MIN_VALUE;

  private static final int ABSENT = -5;
  private static final int INGREDIENTS = 12;
  private static final int RECIPES = 8;
  private static final int ITEMS = 6;
  private static final int PACKS = 3;
  private static final int SUBSTITUTIONS = 6;
  private static final int CHANGES = 8;
  private static final int ALLERGENS = 8;
  private static final int MOST_STOCK = 999999;

  private static final int MILLILITRES = 1;
  private static final int PIECES = 2;

  // The reasons because of which what is needed can't be found, by the document's numbers.
  private static final int FOUND = 0;
  private static final int MISSING = 1;
  private static final int SELF_CONTAINED = 2;
  private static final int OTHER_UNIT = 3;
  private static final int UNKNOWN_GRAMS = 4;
  private static final int TOO_GREAT = 5;
  private static final int TOO_MANY_ITEMS = 6;

  // A committed state is never changed again, so past states and the snapshot may share its parts.
  private State now = State.initial();
  private State snapshot = null;
  private final State[] past = new State[CHANGES];
  private int pastCount = 0;
  private int latestReason = ABSENT;

  private final Tape tape = new Tape();
  private final Needs needs = new Needs();
  private final Shopping basket = new Shopping();
  private final PathWalk pathWalk = new PathWalk();

  public RecipeScaler() {
  }

  public int feed(int n, int a, int b, int c, int d, int e) {
    if (!isWithin(n, 1, 5) || !isByte(a) || !isByte(b) || !isByte(c) || !isByte(d) || !isByte(e)) {
      return BAD;
    }
    if (tape.length() + n > Tape.MOST_BYTES) {
      return FULL;
    }
    tape.append(a);
    if (n > 1) {
      tape.append(b);
    }
    if (n > 2) {
      tape.append(c);
    }
    if (n > 3) {
      tape.append(d);
    }
    if (n > 4) {
      tape.append(e);
    }
    return tape.length();
  }

  public int read() {
    Recipe recipe = tape.takeRecipe();
    tape.clear();
    if (recipe == null) {
      return -100 - tape.errorPosition();
    }
    State next = now.copy();
    next.putRecipe(recipe.number, recipe);
    commit(next);
    return recipe.number;
  }

  public int removeRecipe(int recipe) {
    if (!isRecipe(recipe)) {
      return NONE;
    }
    Recipe removed = now.recipeAt(recipe);
    if (removed == null) {
      return STATE;
    }
    State next = now.copy();
    next.putRecipe(recipe, null);
    commit(next);
    return removed.itemCount();
  }

  public int density(int ingredient, int up, int down) {
    return changeGrams(ingredient, MILLILITRES, up, down);
  }

  public int weight(int ingredient, int up, int down) {
    return changeGrams(ingredient, PIECES, up, down);
  }

  public int allergens(int ingredient, int contained, int traces) {
    Ingredient old = now.ingredientAt(ingredient);
    if (old == null) {
      return NONE;
    }
    if (!isWithin(contained, 0, 255) || !isWithin(traces, 0, 255)) {
      return BAD;
    }
    Ingredient changed = old.copy();
    changed.contained = contained;
    changed.traces = traces;
    replaceIngredient(ingredient, changed);
    return old.contained + 256 * old.traces;
  }

  public int stock(int ingredient, int grams) {
    Ingredient old = now.ingredientAt(ingredient);
    if (old == null) {
      return NONE;
    }
    if (!isWithin(grams, 0, MOST_STOCK)) {
      return BAD;
    }
    Ingredient changed = old.copy();
    changed.stock = grams;
    replaceIngredient(ingredient, changed);
    return old.stock;
  }

  public int pack(int ingredient, int size, int price) {
    Ingredient old = now.ingredientAt(ingredient);
    if (old == null) {
      return NONE;
    }
    if (!isWithin(size, 1, Shopping.MOST_SIZE) || !isWithin(price, 0, 999)) {
      return BAD;
    }
    if (old.packCount() >= PACKS) {
      return FULL;
    }
    Ingredient changed = old.copy();
    changed.addPack(size, price);
    replaceIngredient(ingredient, changed);
    return old.packCount();
  }

  public int removePack(int ingredient) {
    Ingredient old = now.ingredientAt(ingredient);
    if (old == null) {
      return NONE;
    }
    if (old.packCount() == 0) {
      return STATE;
    }
    Ingredient changed = old.copy();
    changed.dropLastPack();
    replaceIngredient(ingredient, changed);
    return changed.packCount();
  }

  public int substitute(int x, int y, int up, int down, int kind, int v) {
    if (!isIngredient(x) || !isIngredient(y) || !isWithin(kind, 0, 3)) {
      return NONE;
    }
    if (x == y || !isWithin(up, 1, 999) || !isWithin(down, 1, 999)
        || !isWithin(v, 0, Substitution.greatestValue(kind))) {
      return BAD;
    }
    int number = now.substitutionCount();
    if (number >= SUBSTITUTIONS) {
      return FULL;
    }
    State next = now.copy();
    next.putSubstitution(number, new Substitution(x, y, Fraction.of(up, down), kind, v));
    commit(next);
    return number;
  }

  public int removeSubstitution(int substitution) {
    if (now.substitutionAt(substitution) == null) {
      return NONE;
    }
    State next = now.copy();
    next.dropSubstitution(substitution);
    commit(next);
    return next.substitutionCount();
  }

  public int scale(int recipe, int up, int down) {
    if (!isRecipe(recipe)) {
      return NONE;
    }
    if (now.recipeAt(recipe) == null) {
      return STATE;
    }
    if (!isWithin(up, 1, 9999) || !isWithin(down, 1, 9999)) {
      return BAD;
    }
    commit(now.withPlan(recipe, Fraction.of(up, down)));
    return findPlan() ? 1 : 0;
  }

  public int pan(int recipe, int area) {
    if (!isRecipe(recipe)) {
      return NONE;
    }
    Recipe planned = now.recipeAt(recipe);
    if (planned == null || planned.area == Recipe.NO_PAN) {
      return STATE;
    }
    if (!isWithin(area, 1, 9999)) {
      return BAD;
    }
    commit(now.withPlan(recipe, Fraction.of(area, planned.area)));
    return findPlan() ? 1 : 0;
  }

  public int buy() {
    if (!findPlan()) {
      return STATE;
    }
    basket.fill(now, needs.after);
    if (basket.uncoveredSet() != 0) {
      return STATE;
    }
    State next = now.withoutPlan();
    for (int i = 0; i < INGREDIENTS; i++) {
      Ingredient old = now.ingredientAt(i);
      if (old == null) {
        continue;
      }
      int stock = old.stock + basket.boughtGramsOf(i) - Fraction.roundedUp(needs.after.at(i));
      if (stock > MOST_STOCK) {
        return FULL;
      }
      Ingredient changed = old.copy();
      changed.stock = Math.max(stock, 0);
      next.putIngredient(i, changed);
    }
    commit(next);
    return basket.price();
  }

  public int recipe(int recipe, int what) {
    if (!isRecipe(recipe) || !isWithin(what, 0, 7)) {
      return NONE;
    }
    Recipe asked = now.recipeAt(recipe);
    if (asked == null) {
      return STATE;
    }
    switch (what) {
      case 0:
        return asked.itemCount();
      case 1:
        return Fraction.up(asked.amount);
      case 2:
        return Fraction.down(asked.amount);
      case 3:
        return asked.unit;
      case 4:
        return asked.area == Recipe.NO_PAN ? ABSENT : asked.area;
      case 5:
        return asked.recipeSet();
      case 6:
        return now.recipesWithin(recipe);
      default:
        return now.ingredientsWithin(recipe);
    }
  }

  public int item(int recipe, int item, int what) {
    if (!isRecipe(recipe) || !isWithin(what, 0, 3)) {
      return NONE;
    }
    Recipe asked = now.recipeAt(recipe);
    if (asked == null) {
      return STATE;
    }
    Item part = asked.itemAt(item);
    if (part == null) {
      return NONE;
    }
    switch (what) {
      case 0:
        return Fraction.up(part.amount);
      case 1:
        return Fraction.down(part.amount);
      case 2:
        return part.unit;
      default:
        return part.source;
    }
  }

  public long needed(int ingredient, int isAfter, int part) {
    if (!isIngredient(ingredient) || !isWithin(isAfter, 0, 1) || !isPart(part)) {
      return NO;
    }
    if (!findPlan()) {
      return NO;
    }
    Sums sums = isAfter == 1 ? needs.after : needs.before;
    return partOf(sums.at(ingredient), part);
  }

  public int reason() {
    return latestReason;
  }

  public long applied(int substitution, int part) {
    if (now.substitutionAt(substitution) == null || !isWithin(part, 0, 2)) {
      return NO;
    }
    if (!findPlan()) {
      return NO;
    }
    if (part == 0) {
      return isSet(needs.appliedSet(), substitution) ? 1 : 0;
    }
    return partOf(needs.taken.at(substitution), part - 1);
  }

  public int shopping(int ingredient, int what) {
    Ingredient asked = now.ingredientAt(ingredient);
    if (asked == null || !(isWithin(what, 0, 3) || isWithin(what, 10, 9 + asked.packCount()))) {
      return NONE;
    }
    if (!findPlan()) {
      return STATE;
    }
    int lack = asked.lack(needs.after.at(ingredient));
    if (what == 0) {
      return lack;
    }
    if (lack == 0) {
      return 0;
    }
    if (!asked.hasPacksFor(lack)) {
      return ABSENT;
    }
    basket.choose(asked, lack);
    switch (what) {
      case 1:
        return basket.chosenWaste();
      case 2:
        return basket.chosenPrice();
      case 3:
        return basket.chosenGrams();
      default:
        return basket.chosenNumber(what - 10);
    }
  }

  public int account(int what) {
    if (!isWithin(what, 0, 4)) {
      return NONE;
    }
    if (!findPlan()) {
      return STATE;
    }
    basket.fill(now, needs.after);
    switch (what) {
      case 0:
        return basket.price();
      case 1:
        return basket.waste();
      case 2:
        return basket.grams();
      case 3:
        return basket.lackingSet();
      default:
        return basket.uncoveredSet();
    }
  }

  public int risk(int isTrace) {
    if (!isWithin(isTrace, 0, 1)) {
      return NONE;
    }
    if (!findPlan()) {
      return STATE;
    }
    int contained = 0;
    int traces = 0;
    for (int i = 0; i < INGREDIENTS; i++) {
      Ingredient ingredient = now.ingredientAt(i);
      if (ingredient != null && Fraction.isAbove(needs.after.at(i), 0)) {
        contained |= ingredient.contained;
        traces |= ingredient.traces;
      }
    }
    return isTrace == 0 ? contained : traces & ~contained;
  }

  public int path(int allergen, int k) {
    if (!isWithin(allergen, 0, ALLERGENS - 1)) {
      return NONE;
    }
    if (now.recipeAt(now.planRecipe()) == null) {
      return STATE;
    }
    int outcome = pathWalk.search(now, now.planRecipe(), allergen);
    if (outcome == PathWalk.LOOP) {
      return STATE;
    }
    if (outcome == PathWalk.NO_PATH) {
      return ABSENT;
    }
    if (k == -1) {
      return pathWalk.length();
    }
    return isWithin(k, 0, pathWalk.length() - 1) ? pathWalk.stepAt(k) : NONE;
  }

  public long again(int ingredient, int part) {
    if (!isIngredient(ingredient) || !isPart(part)) {
      return NO;
    }
    if (!findPlan() || !needs.findAgain(now)) {
      return NO;
    }
    return partOf(needs.again.at(ingredient), part);
  }

  public long possible(int recipe, int part) {
    if (!isRecipe(recipe) || !isPart(part)) {
      return NO;
    }
    if (!keepReason(needs.find(now, recipe, Fraction.ONE))) {
      return NO;
    }
    long most = needs.yieldsOfStock(now);
    return most < 0 ? NO : partOf(most, part);
  }

  public int back() {
    int last = pastCount - 1;
    if (last < 0 || last >= past.length || past[last] == null) {
      return STATE;
    }
    now = past[last];
    past[last] = null;
    pastCount = last;
    return pastCount;
  }

  public int image() {
    snapshot = now;
    return Integer.bitCount(now.recipeSet());
  }

  public int undo() {
    if (snapshot == null) {
      return STATE;
    }
    now = snapshot;
    pastCount = 0;
    return Integer.bitCount(now.recipeSet());
  }

  public int count(int what) {
    if (isWithin(what, 20, 19 + INGREDIENTS)) {
      Ingredient asked = now.ingredientAt(what - 20);
      return asked == null ? NONE : asked.stock;
    }
    if (isWithin(what, 40, 39 + INGREDIENTS)) {
      Ingredient asked = now.ingredientAt(what - 40);
      return asked == null ? NONE : asked.packCount();
    }
    switch (what) {
      case 0:
        return Integer.bitCount(now.recipeSet());
      case 1:
        return now.recipeSet();
      case 2:
        return now.substitutionCount();
      case 3:
        return tape.length();
      case 4:
        return pastCount;
      case 5:
        return now.hasPlan() ? now.planRecipe() : ABSENT;
      case 6:
        return now.hasPlan() ? Fraction.up(now.planFactor()) : ABSENT;
      case 7:
        return now.hasPlan() ? Fraction.down(now.planFactor()) : ABSENT;
      default:
        return NONE;
    }
  }

  private int changeGrams(int ingredient, int unit, int up, int down) {
    Ingredient old = now.ingredientAt(ingredient);
    if (old == null) {
      return NONE;
    }
    if (!isWithin(up, -1, 9999) || !isWithin(down, 1, 9999)) {
      return BAD;
    }
    long grams = up < 0 ? Ingredient.UNKNOWN : Fraction.of(up, down);
    Ingredient changed = old.copy();
    if (unit == MILLILITRES) {
      changed.density = grams;
    } else {
      changed.pieceWeight = grams;
    }
    replaceIngredient(ingredient, changed);
    return old.gramsOf(unit) == Ingredient.UNKNOWN ? 0 : 1;
  }

  private void replaceIngredient(int ingredient, Ingredient changed) {
    State next = now.copy();
    next.putIngredient(ingredient, changed);
    commit(next);
  }

  /** Makes a changed state the present one; of the past ones the oldest makes room. */
  private void commit(State next) {
    if (pastCount >= CHANGES) {
      for (int i = 1; i < past.length; i++) {
        past[i - 1] = past[i];
      }
      pastCount = CHANGES - 1;
    }
    if (pastCount >= 0 && pastCount < past.length) {
      past[pastCount] = now;
      pastCount++;
    }
    now = next;
  }

  /** Finds what the plan needs, substitutions included; false if there is none or it can't be. */
  private boolean findPlan() {
    return now.hasPlan()
        && keepReason(needs.find(now, now.planRecipe(), now.planFactor()))
        && keepReason(needs.replace(now));
  }

  private boolean keepReason(int reason) {
    if (reason != FOUND) {
      latestReason = reason;
    }
    return reason == FOUND;
  }

  private static long partOf(long fraction, int part) {
    return part == 0 ? Fraction.up(fraction) : Fraction.down(fraction);
  }

  private static boolean isPart(int part) {
    return isWithin(part, 0, 1);
  }

  private static boolean isByte(int value) {
    return isWithin(value, 0, 127);
  }

  private static boolean isIngredient(int number) {
    return isWithin(number, 0, INGREDIENTS - 1);
  }

  private static boolean isRecipe(int number) {
    return isWithin(number, 0, RECIPES - 1);
  }

  private static boolean isWithin(int value, int least, int most) {
    return value >= least && value <= most;
  }

  private static boolean isSet(int set, int bit) {
    return (set >> bit & 1) != 0;
  }

  /**
   * Fractions in lowest terms, each held in a long, so that reckoning makes no objects: the
   * numerator is in the upper 32 bits, the denominator in the lower ones. A fraction that is too
   * great is negative, and so is all that is reckoned from it.
   */
  private static final class Fraction {
    static final long ZERO = 1L;
    static final long ONE = (1L << 32) + 1L;
    static final long OVERFLOW = -1L;
    private static final long LIMIT = 1000000000L;
    // Euclid's way needs fewer steps than this for any two longs.
    private static final int MOST_STEPS = 100;

    static long of(long up, long down) {
      if (up < 0 || down < 1) {
        return OVERFLOW;
      }
      long divisor = up;
      long smaller = down;
      for (int step = 0; step < MOST_STEPS && smaller != 0; step++) {
        long rest = divisor % smaller;
        divisor = smaller;
        smaller = rest;
      }
      if (divisor < 1) {
        return OVERFLOW;
      }
      long lowUp = up / divisor;
      long lowDown = down / divisor;
      return lowUp > LIMIT || lowDown > LIMIT ? OVERFLOW : (lowUp << 32) + lowDown;
    }

    static int up(long fraction) {
      return (int) (fraction >> 32);
    }

    static int down(long fraction) {
      return (int) fraction;
    }

    // Numerators and denominators are at most 10^9, so none of the terms below leaves a long.
    static long product(long a, long b) {
      if (a < 0 || b < 0) {
        return OVERFLOW;
      }
      return of((long) up(a) * up(b), (long) down(a) * down(b));
    }

    static long quotient(long a, long b) {
      if (a < 0 || b < 0) {
        return OVERFLOW;
      }
      return of((long) up(a) * down(b), (long) down(a) * up(b));
    }

    static long sum(long a, long b) {
      if (a < 0 || b < 0) {
        return OVERFLOW;
      }
      return of((long) up(a) * down(b) + (long) up(b) * down(a), (long) down(a) * down(b));
    }

    static long lessWhole(long fraction, int whole) {
      return of(up(fraction) - (long) whole * down(fraction), down(fraction));
    }

    static boolean isAbove(long fraction, int whole) {
      return up(fraction) > (long) whole * down(fraction);
    }

    static boolean isLess(long a, long b) {
      return (long) up(a) * down(b) < (long) up(b) * down(a);
    }

    static int roundedUp(long fraction) {
      int down = down(fraction);
      if (down < 1) {
        return 0;
      }
      return (int) (((long) up(fraction) + down - 1) / down);
    }
  }

  /** An item of a recipe; its source is an ingredient, or 12 plus a recipe. */
  private static final class Item {
    final long amount;
    final int unit;
    final int source;

    Item(long amount, int unit, int source) {
      this.amount = amount;
      this.unit = unit;
      this.source = source;
    }

    boolean isOfRecipe() {
      return source >= INGREDIENTS;
    }

    int innerRecipe() {
      return source - INGREDIENTS;
    }
  }

  /** A recipe; behind its last item the array holds null. It is not changed once it is read. */
  private static final class Recipe {
    static final int NO_PAN = 0;

    final int number;
    final Item[] items;
    final long amount;
    final int unit;
    final int area;

    Recipe(int number, Item[] items, long amount, int unit, int area) {
      this.number = number;
      this.items = items;
      this.amount = amount;
      this.unit = unit;
      this.area = area;
    }

    int itemCount() {
      int found = 0;
      for (Item item : items) {
        if (item != null) {
          found++;
        }
      }
      return found;
    }

    Item itemAt(int index) {
      return index >= 0 && index < items.length ? items[index] : null;
    }

    int recipeSet() {
      int set = 0;
      for (Item item : items) {
        if (item != null && item.isOfRecipe()) {
          set |= 1 << item.innerRecipe();
        }
      }
      return set;
    }

    int ingredientSet() {
      int set = 0;
      for (Item item : items) {
        if (item != null && !item.isOfRecipe()) {
          set |= 1 << item.source;
        }
      }
      return set;
    }
  }

  /** An ingredient; a changed one is a copy that replaces it. */
  private static final class Ingredient {
    static final long UNKNOWN = -1L;
    // A greater lack counts as one that no packs can cover.
    static final int MOST_LACK = 5000;

    long density = UNKNOWN;
    long pieceWeight = UNKNOWN;
    int contained = 0;
    int traces = 0;
    int stock = 0;
    private int packCount = 0;
    private final int[] sizes = new int[PACKS];
    private final int[] prices = new int[PACKS];

    Ingredient copy() {
      Ingredient other = new Ingredient();
      other.density = density;
      other.pieceWeight = pieceWeight;
      other.contained = contained;
      other.traces = traces;
      other.stock = stock;
      for (int k = 0; k < packCount; k++) {
        other.addPack(sizeAt(k), priceAt(k));
      }
      return other;
    }

    long gramsOf(int unit) {
      switch (unit) {
        case 0:
          return Fraction.ONE;
        case MILLILITRES:
          return density;
        case PIECES:
          return pieceWeight;
        default:
          return UNKNOWN;
      }
    }

    boolean concerns(int allergen) {
      return isSet(contained | traces, allergen);
    }

    int lack(long needed) {
      return Math.max(0, Fraction.roundedUp(needed) - stock);
    }

    boolean hasPacksFor(int lack) {
      return packCount > 0 && lack <= MOST_LACK;
    }

    int packCount() {
      return packCount;
    }

    void addPack(int size, int price) {
      if (packCount >= 0 && packCount < sizes.length && packCount < prices.length) {
        sizes[packCount] = size;
        prices[packCount] = price;
        packCount++;
      }
    }

    void dropLastPack() {
      if (packCount > 0) {
        packCount--;
      }
    }

    int sizeAt(int k) {
      return k >= 0 && k < sizes.length ? sizes[k] : 0;
    }

    int priceAt(int k) {
      return k >= 0 && k < prices.length ? prices[k] : 0;
    }
  }

  /** A substitution: of x, under a condition, by y. */
  private static final class Substitution {
    private static final int WITH_ALLERGEN = 1;
    private static final int ABOVE_NUMBER = 2;
    private static final int ABOVE_STOCK = 3;

    final int x;
    final int y;
    final long ratio;
    private final int kind;
    private final int value;

    Substitution(int x, int y, long ratio, int kind, int value) {
      this.x = x;
      this.y = y;
      this.ratio = ratio;
      this.kind = kind;
      this.value = value;
    }

    static int greatestValue(int kind) {
      if (kind == WITH_ALLERGEN) {
        return ALLERGENS - 1;
      }
      return kind == ABOVE_NUMBER ? 999999 : 0;
    }

    boolean holds(Ingredient replaced, long needed) {
      switch (kind) {
        case WITH_ALLERGEN:
          return replaced.concerns(value);
        case ABOVE_NUMBER:
          return Fraction.isAbove(needed, value);
        case ABOVE_STOCK:
          return Fraction.isAbove(needed, replaced.stock);
        default:
          return true;
      }
    }

    /** What stays of x where the condition holds, in whole grams. */
    int kept(Ingredient replaced) {
      return kind == ABOVE_STOCK ? replaced.stock : 0;
    }
  }

  /** All that the snapshot and the changes keep; it is changed only until it is committed. */
  private static final class State {
    private static final int NO_PLAN = -1;

    private final Recipe[] recipes = new Recipe[RECIPES];
    private final Ingredient[] ingredients = new Ingredient[INGREDIENTS];
    private final Substitution[] substitutions = new Substitution[SUBSTITUTIONS];
    private int planRecipe = NO_PLAN;
    private long planFactor = Fraction.ZERO;

    static State initial() {
      State first = new State();
      for (int i = 0; i < INGREDIENTS; i++) {
        first.putIngredient(i, new Ingredient());
      }
      return first;
    }

    State copy() {
      State other = new State();
      for (int i = 0; i < RECIPES; i++) {
        other.putRecipe(i, recipeAt(i));
      }
      for (int i = 0; i < INGREDIENTS; i++) {
        other.putIngredient(i, ingredientAt(i));
      }
      for (int i = 0; i < SUBSTITUTIONS; i++) {
        other.putSubstitution(i, substitutionAt(i));
      }
      other.planRecipe = planRecipe;
      other.planFactor = planFactor;
      return other;
    }

    Recipe recipeAt(int number) {
      return number >= 0 && number < recipes.length ? recipes[number] : null;
    }

    Ingredient ingredientAt(int number) {
      return number >= 0 && number < ingredients.length ? ingredients[number] : null;
    }

    Substitution substitutionAt(int number) {
      return number >= 0 && number < substitutions.length ? substitutions[number] : null;
    }

    void putRecipe(int number, Recipe recipe) {
      if (number >= 0 && number < recipes.length) {
        recipes[number] = recipe;
      }
    }

    void putIngredient(int number, Ingredient ingredient) {
      if (number >= 0 && number < ingredients.length) {
        ingredients[number] = ingredient;
      }
    }

    void putSubstitution(int number, Substitution substitution) {
      if (number >= 0 && number < substitutions.length) {
        substitutions[number] = substitution;
      }
    }

    void dropSubstitution(int number) {
      for (int i = Math.max(number, 0); i < SUBSTITUTIONS; i++) {
        putSubstitution(i, substitutionAt(i + 1));
      }
    }

    int substitutionCount() {
      int found = 0;
      for (Substitution substitution : substitutions) {
        if (substitution != null) {
          found++;
        }
      }
      return found;
    }

    boolean hasPlan() {
      return planRecipe != NO_PLAN;
    }

    int planRecipe() {
      return planRecipe;
    }

    long planFactor() {
      return planFactor;
    }

    State withPlan(int recipe, long factor) {
      State other = copy();
      other.planRecipe = recipe;
      other.planFactor = factor;
      return other;
    }

    State withoutPlan() {
      return withPlan(NO_PLAN, Fraction.ZERO);
    }

    int recipeSet() {
      int set = 0;
      for (int i = 0; i < RECIPES; i++) {
        if (recipeAt(i) != null) {
          set |= 1 << i;
        }
      }
      return set;
    }

    /** The recipes that those of a set contain directly; missing ones contain nothing. */
    int recipesDirectlyIn(int set) {
      int inner = 0;
      for (int i = 0; i < RECIPES; i++) {
        Recipe recipe = recipeAt(i);
        if (recipe != null && isSet(set, i)) {
          inner |= recipe.recipeSet();
        }
      }
      return inner;
    }

    /** The recipes that a recipe contains, directly or through others. */
    int recipesWithin(int number) {
      int inner = recipesDirectlyIn(1 << number);
      // Each round goes one recipe deeper, and no shortest way passes more than all of them.
      for (int round = 0; round < RECIPES; round++) {
        inner |= recipesDirectlyIn(inner);
      }
      return inner;
    }

    int ingredientsWithin(int number) {
      int holders = 1 << number | recipesWithin(number);
      int set = 0;
      for (int i = 0; i < RECIPES; i++) {
        Recipe recipe = recipeAt(i);
        if (recipe != null && isSet(holders, i)) {
          set |= recipe.ingredientSet();
        }
      }
      return set;
    }
  }

  /** The tape, and the reading of a recipe on it. */
  private static final class Tape {
    static final int MOST_BYTES = 60;
    private static final int WRONG = -1;

    private final int[] bytes = new int[MOST_BYTES];
    private int length = 0;
    // Each take.. below moves this on only over what fits, so where one fails it is the error's.
    private int position = 0;

    int length() {
      return length;
    }

    int errorPosition() {
      return position;
    }

    void append(int value) {
      if (length >= 0 && length < bytes.length) {
        bytes[length] = value;
        length++;
      }
    }

    void clear() {
      length = 0;
    }

    /** Reads the whole tape; null if the text is wrong. */
    Recipe takeRecipe() {
      position = 0;
      int number = takeBetween('0', '7');
      if (number < 0 || !take(':')) {
        return null;
      }
      Item[] items = new Item[ITEMS];
      if (!takeItems(items) || !take('=')) {
        return null;
      }
      long amount = takeAmount();
      int unit = amount < 0 ? WRONG : takeUnit();
      if (unit < 0) {
        return null;
      }
      int area = take('@') ? takeNumber() : Recipe.NO_PAN;
      if (area < 0 || position != length) {
        return null;
      }
      return new Recipe(number, items, amount, unit, area);
    }

    private boolean takeItems(Item[] items) {
      for (int i = 0; i < items.length; i++) {
        if (i > 0 && !take(',')) {
          return true;
        }
        Item item = takeItem();
        if (item == null) {
          return false;
        }
        items[i] = item;
      }
      return true;
    }

    private Item takeItem() {
      long amount = takeAmount();
      int unit = amount < 0 ? WRONG : takeUnit();
      int source = unit < 0 ? WRONG : takeSource();
      return source < 0 ? null : new Item(amount, unit, source);
    }

    private long takeAmount() {
      int up = takeNumber();
      if (up < 0) {
        return WRONG;
      }
      int down = take('/') ? takeNumber() : 1;
      return down < 0 ? WRONG : Fraction.of(up, down);
    }

    private int takeNumber() {
      int first = takeBetween('1', '9');
      if (first < 0) {
        return WRONG;
      }
      int value = first + 1;
      for (int i = 0; i < 2; i++) {
        int digit = takeBetween('0', '9');
        if (digit < 0) {
          return value;
        }
        value = value * 10 + digit;
      }
      return value;
    }

    private int takeUnit() {
      if (take('g')) {
        return 0;
      }
      if (take('m')) {
        return MILLILITRES;
      }
      return take('p') ? PIECES : WRONG;
    }

    private int takeSource() {
      int letter = takeBetween('a', 'l');
      if (letter >= 0) {
        return letter;
      }
      int digit = takeBetween('0', '7');
      return digit < 0 ? WRONG : INGREDIENTS + digit;
    }

    private boolean take(char wanted) {
      return takeBetween(wanted, wanted) >= 0;
    }

    /** Takes a byte of a range; its place in the range, or WRONG if another one or none is next. */
    private int takeBetween(char least, char most) {
      if (position < 0 || position >= length || position >= bytes.length) {
        return WRONG;
      }
      int value = bytes[position];
      if (value < least || value > most) {
        return WRONG;
      }
      position++;
      return value - least;
    }
  }

  /** A fraction for each number of a range, 0 at first. */
  private static final class Sums {
    private final long[] fractions;

    Sums(int length) {
      fractions = new long[Math.max(length, 0)];
      for (int i = 0; i < fractions.length; i++) {
        fractions[i] = Fraction.ZERO;
      }
    }

    void clear() {
      for (int i = 0; i < fractions.length; i++) {
        fractions[i] = Fraction.ZERO;
      }
    }

    void copyFrom(Sums other) {
      for (int i = 0; i < fractions.length; i++) {
        fractions[i] = other.at(i);
      }
    }

    long at(int number) {
      return number >= 0 && number < fractions.length ? fractions[number] : Fraction.ZERO;
    }

    void put(int number, long fraction) {
      if (number >= 0 && number < fractions.length) {
        fractions[number] = fraction;
      }
    }

    /** Answers FOUND, or TOO_GREAT if the sum or what is added is too great. */
    int add(int number, long fraction) {
      long sum = Fraction.sum(at(number), fraction);
      if (sum < 0) {
        return TOO_GREAT;
      }
      put(number, sum);
      return FOUND;
    }
  }

  /** Finds what is needed, by either way; what it finds stays until it is asked again. */
  private static final class Needs {
    private static final int MOST_ITEMS = 300;

    final Sums before = new Sums(INGREDIENTS);
    final Sums after = new Sums(INGREDIENTS);
    final Sums again = new Sums(INGREDIENTS);
    final Sums taken = new Sums(SUBSTITUTIONS);
    private final Sums factors = new Sums(RECIPES);
    private int appliedSet = 0;
    private int passedItems = 0;

    int appliedSet() {
      return appliedSet;
    }

    /** Finds what a recipe needs before the substitutions; answers FOUND or the reason why not. */
    int find(State state, int number, long factor) {
      before.clear();
      passedItems = 0;
      Recipe recipe = state.recipeAt(number);
      if (recipe == null) {
        return MISSING;
      }
      return walk(state, recipe, factor, 1 << number, 1);
    }

    private int walk(State state, Recipe recipe, long factor, int open, int depth) {
      // Deeper than this, one of the open recipes would have to be met twice.
      if (depth > RECIPES) {
        return SELF_CONTAINED;
      }
      for (Item item : recipe.items) {
        if (item == null) {
          return FOUND;
        }
        passedItems++;
        if (passedItems > MOST_ITEMS) {
          return TOO_MANY_ITEMS;
        }
        int reason = item.isOfRecipe() ? enter(state, item, factor, open, depth)
            : addItem(before, state, item, factor);
        if (reason != FOUND) {
          return reason;
        }
      }
      return FOUND;
    }

    private int enter(State state, Item item, long factor, int open, int depth) {
      int number = item.innerRecipe();
      Recipe inner = state.recipeAt(number);
      if (inner == null) {
        return MISSING;
      }
      if (isSet(open, number)) {
        return SELF_CONTAINED;
      }
      if (inner.unit != item.unit) {
        return OTHER_UNIT;
      }
      long innerFactor = factorOf(item, factor, inner);
      if (innerFactor < 0) {
        return TOO_GREAT;
      }
      return walk(state, inner, innerFactor, open | 1 << number, depth + 1);
    }

    private static long factorOf(Item item, long factor, Recipe inner) {
      return Fraction.quotient(Fraction.product(item.amount, factor), inner.amount);
    }

    private static int addItem(Sums sums, State state, Item item, long factor) {
      Ingredient ingredient = state.ingredientAt(item.source);
      long grams = ingredient == null ? Ingredient.UNKNOWN : ingredient.gramsOf(item.unit);
      if (grams < 0) {
        return UNKNOWN_GRAMS;
      }
      long amount = Fraction.product(item.amount, factor);
      return sums.add(item.source, Fraction.product(amount, grams));
    }

    /** Applies the substitutions to what was found; answers FOUND or TOO_GREAT. */
    int replace(State state) {
      after.copyFrom(before);
      taken.clear();
      appliedSet = 0;
      for (int i = 0; i < SUBSTITUTIONS; i++) {
        if (replaceOne(state, i) != FOUND) {
          return TOO_GREAT;
        }
      }
      return FOUND;
    }

    private int replaceOne(State state, int number) {
      Substitution substitution = state.substitutionAt(number);
      if (substitution == null) {
        return FOUND;
      }
      Ingredient replaced = state.ingredientAt(substitution.x);
      long needed = after.at(substitution.x);
      if (replaced == null || !substitution.holds(replaced, needed)) {
        return FOUND;
      }
      int kept = substitution.kept(replaced);
      long away = Fraction.lessWhole(needed, kept);
      appliedSet |= 1 << number;
      taken.put(number, away);
      after.put(substitution.x, Fraction.of(kept, 1));
      return after.add(substitution.y, Fraction.product(away, substitution.ratio));
    }

    /**
     * Adds up what the plan needs before the substitutions, recipe by recipe; false if a fraction
     * is too great. It asks for a plan whose needs were found the first way.
     */
    boolean findAgain(State state) {
      int plan = state.planRecipe();
      again.clear();
      factors.clear();
      factors.put(plan, state.planFactor());
      int waiting = 1 << plan | state.recipesWithin(plan);
      for (int round = 0; round < RECIPES && waiting != 0; round++) {
        int next = lowestUncontained(state, waiting);
        Recipe recipe = state.recipeAt(next);
        if (recipe == null || !goThrough(state, recipe)) {
          return false;
        }
        waiting &= ~(1 << next);
      }
      return true;
    }

    private static int lowestUncontained(State state, int waiting) {
      int free = waiting & ~state.recipesDirectlyIn(waiting);
      for (int i = 0; i < RECIPES; i++) {
        if (isSet(free, i)) {
          return i;
        }
      }
      return NONE;
    }

    private boolean goThrough(State state, Recipe recipe) {
      long factor = factors.at(recipe.number);
      for (Item item : recipe.items) {
        if (item == null) {
          return true;
        }
        int reason = item.isOfRecipe() ? addFactor(state, item, factor)
            : addItem(again, state, item, factor);
        if (reason != FOUND) {
          return false;
        }
      }
      return true;
    }

    private int addFactor(State state, Item item, long factor) {
      Recipe inner = state.recipeAt(item.innerRecipe());
      if (inner == null) {
        return MISSING;
      }
      return factors.add(inner.number, factorOf(item, factor, inner));
    }

    /** How many yields the stock allows for what was found last; negative if that can't be told. */
    long yieldsOfStock(State state) {
      long most = Fraction.OVERFLOW;
      for (int i = 0; i < INGREDIENTS; i++) {
        Ingredient ingredient = state.ingredientAt(i);
        long needed = before.at(i);
        if (ingredient == null || !Fraction.isAbove(needed, 0)) {
          continue;
        }
        long yields = Fraction.quotient(Fraction.of(ingredient.stock, 1), needed);
        if (yields < 0) {
          return Fraction.OVERFLOW;
        }
        if (most < 0 || Fraction.isLess(yields, most)) {
          most = yields;
        }
      }
      return most;
    }
  }

  /** Chooses the packs for a lack, and adds up the whole shopping of a plan. */
  private static final class Shopping {
    static final int MOST_SIZE = 2000;

    // A power of two above MOST_SIZE: the choices for older sums are not looked at any more.
    private static final int RING = 2048;

    /*
     * A choice of packs is one long, so that the better one is the lesser one: from the top its
     * price, its number of packs, and in 13 bits each how far the packs 0 and the packs 1 are
     * below MOST_NUMBER. No choice that counts has more than 5000 packs.
     */
    private static final long MOST_NUMBER = 8191L;
    private static final long NO_PACKS = (MOST_NUMBER << 13) + MOST_NUMBER;
    private static final long NO_CHOICE = Long.MAX_VALUE;

    private final long[] best = new long[RING];
    private long chosen = NO_PACKS;
    private int chosenGrams = 0;
    private int chosenWaste = 0;

    private final int[] boughtGrams = new int[INGREDIENTS];
    private int price = 0;
    private int waste = 0;
    private int grams = 0;
    private int lackingSet = 0;
    private int uncoveredSet = 0;

    int chosenPrice() {
      return (int) (chosen >> 39);
    }

    int chosenGrams() {
      return chosenGrams;
    }

    int chosenWaste() {
      return chosenWaste;
    }

    int chosenNumber(int k) {
      int first = (int) (MOST_NUMBER - (chosen >> 13 & MOST_NUMBER));
      int second = (int) (MOST_NUMBER - (chosen & MOST_NUMBER));
      if (k == 0) {
        return first;
      }
      return k == 1 ? second : (int) (chosen >> 26 & MOST_NUMBER) - first - second;
    }

    int boughtGramsOf(int ingredient) {
      boolean isKnown = ingredient >= 0 && ingredient < boughtGrams.length;
      return isKnown ? boughtGrams[ingredient] : 0;
    }

    int price() {
      return price;
    }

    int waste() {
      return waste;
    }

    int grams() {
      return grams;
    }

    int lackingSet() {
      return lackingSet;
    }

    int uncoveredSet() {
      return uncoveredSet;
    }

    /** Adds up the shopping for all ingredients. */
    void fill(State state, Sums needed) {
      price = 0;
      waste = 0;
      grams = 0;
      lackingSet = 0;
      uncoveredSet = 0;
      for (int i = 0; i < boughtGrams.length; i++) {
        Ingredient ingredient = state.ingredientAt(i);
        boughtGrams[i] = ingredient == null ? 0 : fillOne(i, ingredient, needed.at(i));
      }
    }

    /** Answers the grams that are bought of the ingredient. */
    private int fillOne(int number, Ingredient ingredient, long needed) {
      int lack = ingredient.lack(needed);
      if (lack == 0) {
        return 0;
      }
      lackingSet |= 1 << number;
      if (!ingredient.hasPacksFor(lack)) {
        uncoveredSet |= 1 << number;
        return 0;
      }
      choose(ingredient, lack);
      price += chosenPrice();
      waste += chosenWaste;
      grams += chosenGrams;
      return chosenGrams;
    }

    /** Chooses packs of an ingredient that has packs for the lack. */
    void choose(Ingredient ingredient, int lack) {
      // The smallest pack alone reaches a sum that is less than its size above the lack.
      for (int sum = 0; sum < Ingredient.MOST_LACK + MOST_SIZE; sum++) {
        long choice = sum == 0 ? NO_PACKS : bestWithLastPack(ingredient, sum);
        putBest(sum, choice);
        if (sum >= lack && choice != NO_CHOICE) {
          chosen = choice;
          chosenGrams = sum;
          chosenWaste = sum - lack;
          return;
        }
      }
    }

    private long bestWithLastPack(Ingredient ingredient, int sum) {
      long found = NO_CHOICE;
      int packs = ingredient.packCount();
      for (int k = 0; k < packs; k++) {
        int rest = sum - ingredient.sizeAt(k);
        long others = bestAt(rest);
        if (others != NO_CHOICE) {
          found = Math.min(found, others + onePack(k, ingredient.priceAt(k)));
        }
      }
      return found;
    }

    private long bestAt(int sum) {
      int place = sum & (RING - 1);
      return sum >= 0 && place < best.length ? best[place] : NO_CHOICE;
    }

    private void putBest(int sum, long choice) {
      int place = sum & (RING - 1);
      if (sum >= 0 && place < best.length) {
        best[place] = choice;
      }
    }

    private static long onePack(int k, int price) {
      long pack = ((long) price << 39) + (1L << 26);
      if (k == 0) {
        return pack - (1L << 13);
      }
      return k == 1 ? pack - 1L : pack;
    }
  }

  /** Searches the first path of an allergen. */
  private static final class PathWalk {
    static final int NO_PATH = 0;
    static final int PATH = 1;
    static final int LOOP = 2;
    private static final int INGREDIENT_STEP = 100;

    private final int[] steps = new int[RECIPES + 1];
    private int length = 0;
    // Recipes gone through without a path or loop: they have none where they are met again.
    private int finished = 0;

    int length() {
      return length;
    }

    int stepAt(int k) {
      return k >= 0 && k < steps.length ? steps[k] : NONE;
    }

    int search(State state, int number, int allergen) {
      finished = 0;
      length = 0;
      return walk(state, number, allergen, 0, 0);
    }

    private int walk(State state, int number, int allergen, int open, int depth) {
      if (isSet(open, number) || depth >= RECIPES) {
        return LOOP;
      }
      Recipe recipe = state.recipeAt(number);
      if (recipe == null || isSet(finished, number)) {
        return NO_PATH;
      }
      putStep(depth, number);
      for (Item item : recipe.items) {
        if (item == null) {
          break;
        }
        int outcome = item.isOfRecipe() ? enter(state, item, allergen, open | 1 << number, depth)
            : look(state, item, allergen, depth);
        if (outcome != NO_PATH) {
          return outcome;
        }
      }
      finished |= 1 << number;
      return NO_PATH;
    }

    private int enter(State state, Item item, int allergen, int open, int depth) {
      return walk(state, item.innerRecipe(), allergen, open, depth + 1);
    }

    private int look(State state, Item item, int allergen, int depth) {
      Ingredient ingredient = state.ingredientAt(item.source);
      if (ingredient == null || !ingredient.concerns(allergen)) {
        return NO_PATH;
      }
      putStep(depth + 1, INGREDIENT_STEP + item.source);
      length = depth + 2;
      return PATH;
    }

    private void putStep(int k, int step) {
      if (k >= 0 && k < steps.length) {
        steps[k] = step;
      }
    }
  }
}
