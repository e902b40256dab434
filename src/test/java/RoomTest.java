import com.sun.management.ThreadMXBean;
import java.lang.management.ManagementFactory;

/** All calls of a run share one room: what an object makes is made in its constructor, and calls make next to nothing. */
public final class RoomTest {
  private static final ThreadMXBean THREADS = (ThreadMXBean) ManagementFactory.getThreadMXBean();

  public static void main(String[] args) {
    made();
    KeelHouse yard = new KeelHouse();
    made();
    long before = made();
    KeelHouse other = new KeelHouse();
    Check.same("a new object takes less than 40000 bytes", true, made() - before < 40000);
    dearest(yard);
    before = made();
    dearest(other);
    long taken = made() - before;
    Check.same("some 60 dear calls take " + taken + " bytes, less than 2000", true, taken < 2000);
    Check.end();
  }

  private static long made() {
    return THREADS.getThreadAllocatedBytes(Thread.currentThread().getId());
  }

  private static void dearest(KeelHouse yard) {
    Yards.addBox(yard);
    yard.put(0, 600, 2, 0, 0);
    yard.lighten(0);
    yard.lay(0, 0);
    Yards.supply(yard);
    for (int i = 0; i < 12; i++) {
      yard.pass(i + 1);
      yard.cutAll(0, 0);
      yard.digest();
      yard.done(0, 3);
      yard.breaks(0);
    }
    yard.port(10, 10, 100);
    yard.port(20, 10, 100);
    yard.route(-1, 3, true);
  }
}
