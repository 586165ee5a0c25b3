/** An object with a little of everything, and a change of each kind that it can be made. */
final class Furnished {
  /** The number of kinds of changes; the last one is buy, which works only while there is a plan. */
  static final int CHANGES = 16;

  private Furnished() {
  }

  /** Recipes, ingredients, substitutions and a plan, but no changes that can be undone. */
  static RecipeScaler make() {
    RecipeScaler x = Check.with("0:2ga,3mb,1pc,1g1=4g@20", "1:5gd=1g");
    x.density(1, 1, 2);
    x.weight(2, 3, 1);
    for (int i = 0; i < 5; i++) {
      x.pack(i, 3 + i, 5);
    }
    x.substitute(0, 4, 2, 1, 1, 0);
    x.substitute(1, 4, 2, 1, 3, 0);
    x.allergens(0, 1, 2);
    x.allergens(1, 4, 8);
    x.stock(3, 9);
    x.scale(0, 7, 2);
    x.image();
    x.undo();
    return x;
  }

  static int change(RecipeScaler x, int number) {
    switch (number) {
      case 0:
        return x.density(1, 3, 2);
      case 1:
        return x.density(1, -1, 1);
      case 2:
        return x.weight(2, 9999, 1);
      case 3:
        return x.weight(2, -1, 1);
      case 4:
        return x.allergens(2, 16, 32);
      case 5:
        return x.stock(3, 17);
      case 6:
        return x.pack(3, 1, 1);
      case 7:
        return x.removePack(0);
      case 8:
        return Check.read(x, "7:1gk=1g");
      case 9:
        return Check.read(x, "0:1gk=1g");
      case 10:
        return x.removeRecipe(0);
      case 11:
        return x.substitute(2, 5, 1, 1, 0, 0);
      case 12:
        return x.removeSubstitution(0);
      case 13:
        return x.scale(1, 1, 1);
      case 14:
        return x.pan(0, 7);
      default:
        return x.buy();
    }
  }
}
