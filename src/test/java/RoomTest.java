import com.sun.management.ThreadMXBean;
import java.lang.management.ManagementFactory;
import java.util.function.ToIntFunction;

/**
 * The room that the calls on an object take. All calls of a run have room for some 600,000 objects;
 * an object has at least 16 bytes, so that with MOST_BYTES a call 512 calls make fewer than 80,000.
 */
public final class RoomTest {
  private static final Check CHECK = new Check("RoomTest");
  private static final ThreadMXBean THREADS =
      (ThreadMXBean) ManagementFactory.getThreadMXBean();
  // Some of them are up to three calls, and an object is used for at most 512.
  private static final int TIMES = 130;
  private static final int MOST_BYTES = 2500;

  public static void main(String[] args) {
    CHECK.isTrue("it is a great plan", furnished().account(0) > 10000);
    few("a new object", x -> new RecipeScaler().count(0), 40000);
    none("needed", x -> (int) x.needed(0, 1, 0));
    none("applied", x -> (int) x.applied(0, 1));
    none("again", x -> (int) x.again(0, 1));
    none("possible", x -> (int) x.possible(3, 0));
    none("shopping", x -> x.shopping(0, 1));
    none("account", x -> x.account(0));
    none("risk", x -> x.risk(0));
    none("path", x -> x.path(7, 0));
    none("recipe", x -> x.recipe(3, 7));
    none("item", x -> x.item(3, 1, 0));
    none("count", x -> x.count(20));
    none("reason", x -> x.reason());
    none("image", x -> x.image());
    none("undo", x -> x.undo());
    none("feed", x -> x.feed(1, 1, 1, 1, 1, 1));
    none("what is refused", x -> x.stock(0, -1) + x.density(12, 1, 1) + x.scale(7, 1, 1));
    few("read", x -> Check.read(x, "7:1ga=1g"), MOST_BYTES);
    few("scale", x -> x.scale(3, 60, 1), MOST_BYTES);
    few("pan", x -> x.pan(3, 60), MOST_BYTES);
    few("density", x -> x.density(11, 1, 1), MOST_BYTES);
    few("substitute", x -> x.substitute(0, 1, 1, 1, 0, 0) + x.back(), MOST_BYTES);
    few("buy", x -> x.buy() + x.undo(), MOST_BYTES);
    CHECK.end();
  }

  private static RecipeScaler furnished() {
    RecipeScaler x = Check.with("2:1ga,1gb,1gc,1gd,1ge,1gf=1g", "1:1g2,1g2,1g2,1g2,1g2,1g2=1g",
        "0:1g1,1g1,1g1,1g1,1g1,1g1=1g@1", "3:1g0,1gg,1gh,1gi,1gj,1gk=1g@1");
    for (int i = 0; i < 12; i++) {
      x.pack(i, 1999, 999);
      x.pack(i, 1997, 999);
      x.pack(i, 1993, 999);
    }
    x.substitute(0, 1, 1, 1, 0, 0);
    x.scale(3, 60, 1);
    x.image();
    return x;
  }

  private static void none(String call, ToIntFunction<RecipeScaler> calls) {
    few(call, calls, 0);
  }

  /** Tests that a call takes at most so many bytes. */
  private static void few(String call, ToIntFunction<RecipeScaler> calls, int most) {
    long id = Thread.currentThread().getId();
    RecipeScaler x = furnished();
    int sum = calls.applyAsInt(x);
    long before = THREADS.getThreadAllocatedBytes(id);
    for (int i = 0; i < TIMES; i++) {
      sum += calls.applyAsInt(x);
    }
    long bytes = THREADS.getThreadAllocatedBytes(id) - before;
    // The asking itself may take a little.
    CHECK.isTrue(call + " takes " + bytes + " bytes in " + TIMES + " times, sum " + sum,
        bytes <= TIMES * most + 2000);
  }
}
