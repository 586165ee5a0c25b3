import com.sun.management.ThreadMXBean;
import java.lang.management.ManagementFactory;
import java.util.function.IntSupplier;

/**
 * The room that 512 calls take. All calls of a run have room for some 600,000 objects; an object
 * has at least 16 bytes, so that with MOST_BYTES a call they make fewer than 80,000.
 */
public final class RoomTest {
  private static final Check CHECK = new Check("RoomTest");
  private static final ThreadMXBean THREADS =
      (ThreadMXBean) ManagementFactory.getThreadMXBean();
  private static final int CALLS = 512;
  private static final int MOST_BYTES = 2500;

  public static void main(String[] args) {
    RecipeScaler x = Check.with("2:1ga,1gb,1gc,1gd,1ge,1gf=1g", "1:1g2,1g2,1g2,1g2,1g2,1g2=1g",
        "0:1g1,1g1,1g1,1g1,1g1,1g1=1g@1", "3:1g0,1gg,1gh,1gi,1gj,1gk=1g@1");
    for (int i = 0; i < 12; i++) {
      x.pack(i, 1999, 999);
      x.pack(i, 1997, 999);
      x.pack(i, 1993, 999);
    }
    x.substitute(0, 1, 1, 1, 0, 0);
    x.scale(3, 60, 1);
    CHECK.isTrue("it is a great plan", x.account(0) > 10000);
    x.image();
    few("a new object", () -> new RecipeScaler().count(0), 40000);
    none("needed", () -> (int) x.needed(0, 1, 0));
    none("applied", () -> (int) x.applied(0, 1));
    none("again", () -> (int) x.again(0, 1));
    none("possible", () -> (int) x.possible(3, 0));
    none("shopping", () -> x.shopping(0, 1));
    none("account", () -> x.account(0));
    none("risk", () -> x.risk(0));
    none("path", () -> x.path(7, 0));
    none("recipe", () -> x.recipe(3, 7));
    none("image", () -> x.image());
    none("undo", () -> x.undo());
    none("feed", () -> x.feed(1, 1, 1, 1, 1, 1));
    x.read();
    few("read", () -> Check.read(x, "7:1ga,2gb,3gc,4gd,5ge,6gf=1g"), MOST_BYTES);
    few("scale", () -> x.scale(3, 60, 1), MOST_BYTES);
    few("density", () -> x.density(11, 1, 1), MOST_BYTES);
    few("buy", () -> buyAndUndo(x), MOST_BYTES);
    CHECK.end();
  }

  private static int buyAndUndo(RecipeScaler x) {
    int price = x.buy();
    x.undo();
    return price;
  }

  private static void none(String call, IntSupplier calls) {
    few(call, calls, 0);
  }

  /** Tests that a call takes at most so many bytes. */
  private static void few(String call, IntSupplier calls, int most) {
    long id = Thread.currentThread().getId();
    calls.getAsInt();
    long before = THREADS.getThreadAllocatedBytes(id);
    int sum = 0;
    for (int i = 0; i < CALLS; i++) {
      sum += calls.getAsInt();
    }
    long bytes = THREADS.getThreadAllocatedBytes(id) - before;
    // The asking itself may take a little.
    CHECK.isTrue(call + " takes " + bytes + " bytes in 512 calls, sum " + sum,
        bytes <= CALLS * most + 2000);
  }
}
