import java.math.BigInteger;
import java.util.ArrayList;
import java.util.List;
import java.util.regex.Matcher;
import java.util.regex.Pattern;

/** The document written down a second time, without regard to room, speed or language rules. */
public final class PlainModel {
  private static final int NONE = -1, BAD = -2, STATE = -3, FULL = -4;
  private static final long NO = Long.MIN_VALUE;
  private static final BigInteger LIMIT = BigInteger.valueOf(1000000000);
  private static final String AMOUNT = "[1-9][0-9]{0,2}(?:/[1-9][0-9]{0,2})?";
  private static final String ITEM = AMOUNT + "[gmp][a-l0-7]";
  private static final Pattern RECIPE = Pattern.compile("([0-7]):(" + ITEM + "(?:," + ITEM
      + "){0,5})=(" + AMOUNT + ")([gmp])(?:@([1-9][0-9]{0,2}))?");

  /** What is needed can't be found. */
  private static final class Refusal extends RuntimeException {
    private static final long serialVersionUID = 1;
    final int reason;

    Refusal(int reason) {
      super(null, null, false, false);
      this.reason = reason;
    }
  }

  private static final class Ratio implements Comparable<Ratio> {
    static final Ratio ZERO = new Ratio(BigInteger.ZERO, BigInteger.ONE);
    final BigInteger up;
    final BigInteger down;

    Ratio(BigInteger up, BigInteger down) {
      BigInteger divisor = up.gcd(down);
      this.up = up.divide(divisor);
      this.down = down.divide(divisor);
    }

    static Ratio of(long up, long down) {
      return new Ratio(BigInteger.valueOf(up), BigInteger.valueOf(down));
    }

    boolean isTooGreat() {
      return up.compareTo(LIMIT) > 0 || down.compareTo(LIMIT) > 0;
    }

    Ratio checked() {
      if (isTooGreat()) {
        throw new Refusal(5);
      }
      return this;
    }

    Ratio times(Ratio other) {
      return new Ratio(up.multiply(other.up), down.multiply(other.down)).checked();
    }

    Ratio by(Ratio other) {
      return new Ratio(up.multiply(other.down), down.multiply(other.up));
    }

    Ratio plus(Ratio other) {
      BigInteger sum = up.multiply(other.down).add(other.up.multiply(down));
      return new Ratio(sum, down.multiply(other.down)).checked();
    }

    Ratio minus(Ratio other) {
      BigInteger rest = up.multiply(other.down).subtract(other.up.multiply(down));
      return new Ratio(rest, down.multiply(other.down)).checked();
    }

    int roundedUp() {
      return up.add(down).subtract(BigInteger.ONE).divide(down).intValueExact();
    }

    long part(int part) {
      return (part == 0 ? up : down).longValueExact();
    }

    @Override public int compareTo(Ratio other) {
      return up.multiply(other.down).compareTo(other.up.multiply(down));
    }
  }

  private record Part(Ratio amount, int unit, int source) { }

  private record Dish(List<Part> parts, Ratio makes, int unit, int area) { }

  private record Swap(int x, int y, Ratio ratio, int kind, int v) { }

  private record Choice(int waste, int price, int[] numbers) { }

  /** What the snapshot holds. */
  private static final class World {
    final Dish[] dishes = new Dish[8];
    final Ratio[][] grams = new Ratio[12][2];
    final int[] contained = new int[12];
    final int[] traces = new int[12];
    final int[] stock = new int[12];
    final List<List<int[]>> packs = new ArrayList<>();
    final List<Swap> swaps = new ArrayList<>();
    int plan = -1;
    Ratio factor = null;

    World() {
      for (int i = 0; i < 12; i++) {
        packs.add(new ArrayList<>());
      }
    }

    World(World other) {
      for (int r = 0; r < 8; r++) {
        dishes[r] = other.dishes[r];
      }
      for (int i = 0; i < 12; i++) {
        grams[i] = other.grams[i].clone();
        contained[i] = other.contained[i];
        traces[i] = other.traces[i];
        stock[i] = other.stock[i];
        packs.add(new ArrayList<>(other.packs.get(i)));
      }
      swaps.addAll(other.swaps);
      plan = other.plan;
      factor = other.factor;
    }
  }

  private World w = new World();
  private World taken = null;
  private final List<World> undone = new ArrayList<>();
  private final StringBuilder tape = new StringBuilder();
  private int reason = -5;

  private void change() {
    undone.add(new World(w));
    if (undone.size() > 8) {
      undone.remove(0);
    }
  }

  public int feed(int n, int a, int b, int c, int d, int e) {
    int[] bytes = {a, b, c, d, e};
    if (n < 1 || n > 5) {
      return BAD;
    }
    for (int value : bytes) {
      if (value < 0 || value > 127) {
        return BAD;
      }
    }
    if (tape.length() + n > 60) {
      return FULL;
    }
    for (int i = 0; i < n; i++) {
      tape.append((char) bytes[i]);
    }
    return tape.length();
  }

  public int read() {
    String text = tape.toString();
    tape.setLength(0);
    Matcher whole = RECIPE.matcher(text);
    if (!whole.matches()) {
      int good = 0;
      while (good < text.length() && canGoOn(text.substring(0, good + 1))) {
        good++;
      }
      return -100 - good;
    }
    change();
    List<Part> parts = new ArrayList<>();
    for (String item : whole.group(2).split(",")) {
      int end = item.length() - 2;
      int source = item.charAt(end + 1) >= 'a' ? item.charAt(end + 1) - 'a'
          : 12 + item.charAt(end + 1) - '0';
      parts.add(new Part(amount(item.substring(0, end)), "gmp".indexOf(item.charAt(end)), source));
    }
    int number = Integer.parseInt(whole.group(1));
    int area = whole.group(5) == null ? -5 : Integer.parseInt(whole.group(5));
    w.dishes[number] = new Dish(parts, amount(whole.group(3)), "gmp".indexOf(whole.group(4)), area);
    return number;
  }

  private static boolean canGoOn(String start) {
    Matcher matcher = RECIPE.matcher(start);
    return matcher.matches() || matcher.hitEnd();
  }

  private static Ratio amount(String text) {
    String[] numbers = text.split("/");
    return Ratio.of(Long.parseLong(numbers[0]), numbers.length < 2 ? 1 : Long.parseLong(numbers[1]));
  }

  private static boolean isDish(int number) {
    return number >= 0 && number <= 7;
  }

  private static boolean isStuff(int number) {
    return number >= 0 && number <= 11;
  }

  public int removeRecipe(int recipe) {
    if (!isDish(recipe)) {
      return NONE;
    }
    if (w.dishes[recipe] == null) {
      return STATE;
    }
    change();
    int items = w.dishes[recipe].parts().size();
    w.dishes[recipe] = null;
    return items;
  }

  public int density(int ingredient, int up, int down) {
    return grams(ingredient, 0, up, down);
  }

  public int weight(int ingredient, int up, int down) {
    return grams(ingredient, 1, up, down);
  }

  private int grams(int ingredient, int which, int up, int down) {
    if (!isStuff(ingredient)) {
      return NONE;
    }
    if (up < -1 || up > 9999 || down < 1 || down > 9999) {
      return BAD;
    }
    change();
    boolean known = w.grams[ingredient][which] != null;
    w.grams[ingredient][which] = up == -1 ? null : Ratio.of(up, down);
    return known ? 1 : 0;
  }

  public int allergens(int ingredient, int contained, int traces) {
    if (!isStuff(ingredient)) {
      return NONE;
    }
    if (contained < 0 || contained > 255 || traces < 0 || traces > 255) {
      return BAD;
    }
    change();
    int previous = w.contained[ingredient] + 256 * w.traces[ingredient];
    w.contained[ingredient] = contained;
    w.traces[ingredient] = traces;
    return previous;
  }

  public int stock(int ingredient, int grams) {
    if (!isStuff(ingredient)) {
      return NONE;
    }
    if (grams < 0 || grams > 999999) {
      return BAD;
    }
    change();
    int previous = w.stock[ingredient];
    w.stock[ingredient] = grams;
    return previous;
  }

  public int pack(int ingredient, int size, int price) {
    if (!isStuff(ingredient)) {
      return NONE;
    }
    if (size < 1 || size > 2000 || price < 0 || price > 999) {
      return BAD;
    }
    if (w.packs.get(ingredient).size() == 3) {
      return FULL;
    }
    change();
    w.packs.get(ingredient).add(new int[] {size, price});
    return w.packs.get(ingredient).size() - 1;
  }

  public int removePack(int ingredient) {
    if (!isStuff(ingredient)) {
      return NONE;
    }
    int packs = w.packs.get(ingredient).size();
    if (packs == 0) {
      return STATE;
    }
    change();
    w.packs.get(ingredient).remove(packs - 1);
    return packs - 1;
  }

  public int substitute(int x, int y, int up, int down, int kind, int v) {
    if (!isStuff(x) || !isStuff(y) || kind < 0 || kind > 3) {
      return NONE;
    }
    int most = new int[] {0, 7, 999999, 0}[kind];
    if (x == y || up < 1 || up > 999 || down < 1 || down > 999 || v < 0 || v > most) {
      return BAD;
    }
    if (w.swaps.size() == 6) {
      return FULL;
    }
    change();
    w.swaps.add(new Swap(x, y, Ratio.of(up, down), kind, v));
    return w.swaps.size() - 1;
  }

  public int removeSubstitution(int substitution) {
    if (substitution < 0 || substitution >= w.swaps.size()) {
      return NONE;
    }
    change();
    w.swaps.remove(substitution);
    return w.swaps.size();
  }

  public int scale(int recipe, int up, int down) {
    if (!isDish(recipe)) {
      return NONE;
    }
    if (w.dishes[recipe] == null) {
      return STATE;
    }
    if (up < 1 || up > 9999 || down < 1 || down > 9999) {
      return BAD;
    }
    return plan(recipe, Ratio.of(up, down));
  }

  public int pan(int recipe, int area) {
    if (!isDish(recipe)) {
      return NONE;
    }
    if (w.dishes[recipe] == null || w.dishes[recipe].area() == -5) {
      return STATE;
    }
    if (area < 1 || area > 9999) {
      return BAD;
    }
    return plan(recipe, Ratio.of(area, w.dishes[recipe].area()));
  }

  private int plan(int recipe, Ratio factor) {
    change();
    w.plan = recipe;
    w.factor = factor;
    return found() == null ? 0 : 1;
  }

  /** What the plan needs. */
  private static final class Found {
    Ratio[] before;
    Ratio[] after;
    final List<Boolean> holds = new ArrayList<>();
    final List<Ratio> away = new ArrayList<>();
  }

  /** Null if there is no plan or what is needed can't be found. */
  private Found found() {
    if (w.plan < 0) {
      return null;
    }
    try {
      Found found = new Found();
      found.before = allOf(w.plan, w.factor);
      found.after = found.before.clone();
      for (Swap swap : w.swaps) {
        swap(swap, found);
      }
      return found;
    } catch (Refusal refusal) {
      reason = refusal.reason;
      return null;
    }
  }

  private Ratio[] allOf(int recipe, Ratio factor) {
    Ratio[] sums = new Ratio[12];
    java.util.Arrays.fill(sums, Ratio.ZERO);
    if (w.dishes[recipe] == null) {
      throw new Refusal(1);
    }
    List<Integer> open = new ArrayList<>();
    open.add(recipe);
    collect(recipe, factor, sums, open, new int[1]);
    return sums;
  }

  private void collect(int recipe, Ratio factor, Ratio[] sums, List<Integer> open, int[] items) {
    for (Part part : w.dishes[recipe].parts()) {
      items[0]++;
      if (items[0] == 301) {
        throw new Refusal(6);
      }
      if (part.source() < 12) {
        Ratio grams = gramsOf(part);
        Ratio amount = part.amount().times(factor).times(grams);
        sums[part.source()] = sums[part.source()].plus(amount);
        continue;
      }
      int inner = part.source() - 12;
      if (w.dishes[inner] == null) {
        throw new Refusal(1);
      }
      if (open.contains(inner)) {
        throw new Refusal(2);
      }
      if (w.dishes[inner].unit() != part.unit()) {
        throw new Refusal(3);
      }
      Ratio next = part.amount().times(factor).by(w.dishes[inner].makes()).checked();
      open.add(inner);
      collect(inner, next, sums, open, items);
      open.remove(open.size() - 1);
    }
  }

  private Ratio gramsOf(Part part) {
    if (part.unit() == 0) {
      return Ratio.of(1, 1);
    }
    Ratio grams = w.grams[part.source()][part.unit() - 1];
    if (grams == null) {
      throw new Refusal(4);
    }
    return grams;
  }

  private void swap(Swap swap, Found found) {
    Ratio needed = found.after[swap.x()];
    Ratio stock = Ratio.of(w.stock[swap.x()], 1);
    boolean holds;
    Ratio away = needed;
    if (swap.kind() == 0) {
      holds = true;
    } else if (swap.kind() == 1) {
      int both = w.contained[swap.x()] | w.traces[swap.x()];
      holds = (both & 1 << swap.v()) != 0;
    } else if (swap.kind() == 2) {
      holds = needed.compareTo(Ratio.of(swap.v(), 1)) > 0;
    } else {
      holds = needed.compareTo(stock) > 0;
      away = needed.minus(stock);
    }
    found.holds.add(holds);
    found.away.add(holds ? away : Ratio.ZERO);
    if (holds) {
      found.after[swap.x()] = needed.minus(away);
      found.after[swap.y()] = found.after[swap.y()].plus(away.times(swap.ratio()));
    }
  }

  private int lack(Found found, int i) {
    return Math.max(0, found.after[i].roundedUp() - w.stock[i]);
  }

  /** The best choice of packs; null if there are none or the lack is too great. */
  private Choice choice(int i, int lack) {
    List<int[]> packs = w.packs.get(i);
    if (packs.isEmpty() || lack > 5000) {
      return null;
    }
    int[] sizes = new int[3];
    int[] prices = new int[3];
    for (int k = 0; k < packs.size(); k++) {
      sizes[k] = packs.get(k)[0];
      prices[k] = packs.get(k)[1];
    }
    Choice best = null;
    int last = packs.size() - 1;
    int most0 = last > 0 ? (lack + sizes[0] - 1) / sizes[0] : 0;
    for (int n0 = 0; n0 <= most0; n0++) {
      int rest0 = lack - n0 * sizes[0];
      int most1 = last > 1 ? Math.max(0, (rest0 + sizes[1] - 1) / sizes[1]) : 0;
      for (int n1 = 0; n1 <= most1; n1++) {
        int rest = rest0 - n1 * sizes[1];
        int[] n = {n0, n1, 0};
        n[last] += rest <= 0 ? 0 : (rest + sizes[last] - 1) / sizes[last];
        int waste = n[0] * sizes[0] + n[1] * sizes[1] + n[2] * sizes[2] - lack;
        int price = n[0] * prices[0] + n[1] * prices[1] + n[2] * prices[2];
        if (best == null || isBetter(waste, price, n, best)) {
          best = new Choice(waste, price, n);
        }
      }
    }
    return best;
  }

  private static boolean isBetter(int waste, int price, int[] n, Choice best) {
    if (waste != best.waste()) {
      return waste < best.waste();
    }
    if (price != best.price()) {
      return price < best.price();
    }
    int[] old = best.numbers();
    int packs = n[0] + n[1] + n[2];
    int oldPacks = old[0] + old[1] + old[2];
    if (packs != oldPacks) {
      return packs < oldPacks;
    }
    return n[0] != old[0] ? n[0] > old[0] : n[1] > old[1];
  }

  public int buy() {
    Found found = found();
    if (found == null) {
      return STATE;
    }
    int price = 0;
    int[] stock = new int[12];
    for (int i = 0; i < 12; i++) {
      int lack = lack(found, i);
      Choice choice = choice(i, lack);
      if (lack > 0 && choice == null) {
        return STATE;
      }
      int bought = lack > 0 ? lack + choice.waste() : 0;
      price += lack > 0 ? choice.price() : 0;
      stock[i] = Math.max(0, w.stock[i] + bought - found.after[i].roundedUp());
    }
    change();
    System.arraycopy(stock, 0, w.stock, 0, 12);
    w.plan = -1;
    w.factor = null;
    return price;
  }

  private void contents(int recipe, boolean[] dishes, boolean[] stuff) {
    if (w.dishes[recipe] == null) {
      return;
    }
    for (Part part : w.dishes[recipe].parts()) {
      if (part.source() < 12) {
        stuff[part.source()] = true;
      } else if (!dishes[part.source() - 12]) {
        dishes[part.source() - 12] = true;
        contents(part.source() - 12, dishes, stuff);
      }
    }
  }

  private static int set(boolean[] bits) {
    int set = 0;
    for (int i = 0; i < bits.length; i++) {
      set += bits[i] ? 1 << i : 0;
    }
    return set;
  }

  public int recipe(int recipe, int what) {
    if (!isDish(recipe) || what < 0 || what > 7) {
      return NONE;
    }
    Dish dish = w.dishes[recipe];
    if (dish == null) {
      return STATE;
    }
    boolean[] dishes = new boolean[8];
    boolean[] stuff = new boolean[12];
    if (what == 5) {
      for (Part part : dish.parts()) {
        if (part.source() >= 12) {
          dishes[part.source() - 12] = true;
        }
      }
      return set(dishes);
    }
    contents(recipe, dishes, stuff);
    int[] answers = {dish.parts().size(), (int) dish.makes().part(0), (int) dish.makes().part(1),
        dish.unit(), dish.area(), 0, set(dishes), set(stuff)};
    return answers[what];
  }

  public int item(int recipe, int item, int what) {
    if (!isDish(recipe) || what < 0 || what > 3) {
      return NONE;
    }
    Dish dish = w.dishes[recipe];
    if (dish == null) {
      return STATE;
    }
    if (item < 0 || item >= dish.parts().size()) {
      return NONE;
    }
    Part part = dish.parts().get(item);
    return what < 2 ? (int) part.amount().part(what) : what == 2 ? part.unit() : part.source();
  }

  public long needed(int ingredient, int isAfter, int part) {
    if (!isStuff(ingredient) || isAfter < 0 || isAfter > 1 || part < 0 || part > 1) {
      return NO;
    }
    Found found = found();
    return found == null ? NO : (isAfter == 1 ? found.after : found.before)[ingredient].part(part);
  }

  public int reason() {
    return reason;
  }

  public long applied(int substitution, int part) {
    if (substitution < 0 || substitution >= w.swaps.size() || part < 0 || part > 2) {
      return NO;
    }
    Found found = found();
    if (found == null) {
      return NO;
    }
    if (part == 0) {
      return found.holds.get(substitution) ? 1 : 0;
    }
    return found.away.get(substitution).part(part - 1);
  }

  public int shopping(int ingredient, int what) {
    if (!isStuff(ingredient)) {
      return NONE;
    }
    boolean isPack = what >= 10 && what < 10L + w.packs.get(ingredient).size();
    if (!isPack && (what < 0 || what > 3)) {
      return NONE;
    }
    Found found = found();
    if (found == null) {
      return STATE;
    }
    int lack = lack(found, ingredient);
    if (what == 0 || lack == 0) {
      return lack;
    }
    Choice choice = choice(ingredient, lack);
    if (choice == null) {
      return -5;
    }
    return isPack ? choice.numbers()[what - 10]
        : what == 1 ? choice.waste() : what == 2 ? choice.price() : lack + choice.waste();
  }

  public int account(int what) {
    if (what < 0 || what > 4) {
      return NONE;
    }
    Found found = found();
    if (found == null) {
      return STATE;
    }
    int[] sums = new int[5];
    for (int i = 0; i < 12; i++) {
      int lack = lack(found, i);
      Choice choice = choice(i, lack);
      if (lack > 0) {
        sums[3] += 1 << i;
        if (choice == null) {
          sums[4] += 1 << i;
        } else {
          sums[0] += choice.price();
          sums[1] += choice.waste();
          sums[2] += lack + choice.waste();
        }
      }
    }
    return sums[what];
  }

  public int risk(int isTrace) {
    if (isTrace < 0 || isTrace > 1) {
      return NONE;
    }
    Found found = found();
    if (found == null) {
      return STATE;
    }
    boolean[] contained = new boolean[8];
    boolean[] traces = new boolean[8];
    for (int allergen = 0; allergen < 8; allergen++) {
      for (int i = 0; i < 12; i++) {
        if (found.after[i].compareTo(Ratio.ZERO) > 0) {
          contained[allergen] |= (w.contained[i] & 1 << allergen) != 0;
          traces[allergen] |= (w.traces[i] & 1 << allergen) != 0;
        }
      }
      traces[allergen] &= !contained[allergen];
    }
    return set(isTrace == 1 ? traces : contained);
  }

  public int path(int allergen, int k) {
    if (allergen < 0 || allergen > 7) {
      return NONE;
    }
    if (w.plan < 0 || w.dishes[w.plan] == null) {
      return STATE;
    }
    List<Integer> path = new ArrayList<>();
    try {
      if (!walk(w.plan, allergen, path)) {
        return -5;
      }
    } catch (Refusal loop) {
      return STATE;
    }
    if (k == -1) {
      return path.size();
    }
    return k < 0 || k >= path.size() ? NONE : path.get(k);
  }

  private boolean walk(int recipe, int allergen, List<Integer> path) {
    if (w.dishes[recipe] == null) {
      return false;
    }
    if (path.contains(recipe)) {
      throw new Refusal(2);
    }
    path.add(recipe);
    for (Part part : w.dishes[recipe].parts()) {
      if (part.source() >= 12) {
        if (walk(part.source() - 12, allergen, path)) {
          return true;
        }
      } else if (((w.contained[part.source()] | w.traces[part.source()]) >> allergen & 1) == 1) {
        path.add(100 + part.source());
        return true;
      }
    }
    path.remove(path.size() - 1);
    return false;
  }

  public long again(int ingredient, int part) {
    if (!isStuff(ingredient) || part < 0 || part > 1 || found() == null) {
      return NO;
    }
    boolean[] members = new boolean[8];
    contents(w.plan, members, new boolean[12]);
    members[w.plan] = true;
    Ratio[] factors = new Ratio[8];
    java.util.Arrays.fill(factors, Ratio.ZERO);
    factors[w.plan] = w.factor;
    Ratio[] sums = new Ratio[12];
    java.util.Arrays.fill(sums, Ratio.ZERO);
    try {
      for (int next = free(members); next >= 0; next = free(members)) {
        members[next] = false;
        for (Part item : w.dishes[next].parts()) {
          Ratio amount = item.amount().times(factors[next]);
          int inner = item.source() - 12;
          if (inner >= 0) {
            Ratio more = amount.by(w.dishes[inner].makes()).checked();
            factors[inner] = factors[inner].plus(more);
          } else {
            sums[item.source()] = sums[item.source()].plus(amount.times(gramsOf(item)));
          }
        }
      }
    } catch (Refusal refusal) {
      return NO;
    }
    return sums[ingredient].part(part);
  }

  /** The lowest member that no other member contains; -1 if there are no members. */
  private int free(boolean[] members) {
    for (int r = 0; r < 8; r++) {
      boolean free = members[r];
      for (int other = 0; other < 8 && free; other++) {
        if (members[other]) {
          boolean[] inner = new boolean[8];
          contents(other, inner, new boolean[12]);
          free = !inner[r];
        }
      }
      if (free) {
        return r;
      }
    }
    return -1;
  }

  public long possible(int recipe, int part) {
    if (!isDish(recipe) || part < 0 || part > 1) {
      return NO;
    }
    Ratio[] needs;
    try {
      needs = allOf(recipe, Ratio.of(1, 1));
    } catch (Refusal refusal) {
      reason = refusal.reason;
      return NO;
    }
    Ratio least = null;
    for (int i = 0; i < 12; i++) {
      if (needs[i].compareTo(Ratio.ZERO) > 0) {
        Ratio quotient = Ratio.of(w.stock[i], 1).by(needs[i]);
        if (quotient.isTooGreat()) {
          return NO;
        }
        least = least == null || quotient.compareTo(least) < 0 ? quotient : least;
      }
    }
    return least == null ? NO : least.part(part);
  }

  public int back() {
    if (undone.isEmpty()) {
      return STATE;
    }
    w = undone.remove(undone.size() - 1);
    return undone.size();
  }

  public int image() {
    taken = new World(w);
    return count(0);
  }

  public int undo() {
    if (taken == null) {
      return STATE;
    }
    w = new World(taken);
    undone.clear();
    return count(0);
  }

  public int count(int what) {
    boolean[] dishes = new boolean[8];
    int number = 0;
    for (int r = 0; r < 8; r++) {
      dishes[r] = w.dishes[r] != null;
      number += dishes[r] ? 1 : 0;
    }
    if (what >= 20 && what < 32) {
      return w.stock[what - 20];
    }
    if (what >= 40 && what < 52) {
      return w.packs.get(what - 40).size();
    }
    switch (what) {
      case 0: return number;
      case 1: return set(dishes);
      case 2: return w.swaps.size();
      case 3: return tape.length();
      case 4: return undone.size();
      case 5: return w.plan < 0 ? -5 : w.plan;
      case 6: return w.plan < 0 ? -5 : (int) w.factor.part(0);
      case 7: return w.plan < 0 ? -5 : (int) w.factor.part(1);
      default: return NONE;
    }
  }
}
