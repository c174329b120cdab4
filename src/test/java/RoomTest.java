import com.sun.management.ThreadMXBean;
import java.lang.management.ManagementFactory;

/** Rows are made with the object: the calls behind it make next to nothing, as all that a run makes is counted. */
public final class RoomTest {
  private static final int MOST_BYTES_OF_AN_OBJECT = 40_000;
  private static final int MOST_BYTES_OF_CALLS = 4_000;
  private static final ThreadMXBean MEMORY = (ThreadMXBean) ManagementFactory.getThreadMXBean();
  private static final Due DUE = new Due("RoomTest");
  private static int seen = 0;

  public static void main(String[] args) {
    use(new WhichShelf());
    long start = made();
    WhichShelf x = new WhichShelf();
    long constructed = made();
    use(x);
    long used = made();
    DUE.is("bytes of an object " + (constructed - start), constructed - start <= MOST_BYTES_OF_AN_OBJECT, true);
    DUE.is("bytes of its calls " + (used - constructed), used - constructed <= MOST_BYTES_OF_CALLS, true);
    DUE.is("something was answered", seen != 0, true);
    DUE.end();
  }

  private static long made() {
    return MEMORY.getThreadAllocatedBytes(Thread.currentThread().getId());
  }

  private static void use(WhichShelf x) {
    x.draw(1, 100, 64, 191);
    x.draw(2, 99, 64, 191);
    for (int i = 0; i < 50; i++) {
      seen += x.call(i % 3, i) + x.drop(1) + x.set(0, i) + x.stages() + x.stage(i) + x.count(3);
      seen += x.key(i % 6, i) + x.sum(i % 6, i % 5) + x.best(100, 100) + x.drift(i % 6, 100, 1);
    }
  }
}
