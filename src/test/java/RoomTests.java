import com.sun.management.ThreadMXBean;
import java.lang.management.ManagementFactory;

/** What calls make: a call makes nothing, but an exception where it throws one. */
final class RoomTests {
  private static final long BYTES_OF_AN_OBJECT = 64_000;
  private static final long BYTES_OF_A_RUN = 64_000;

  private RoomTests() {
  }

  static void run() {
    Check.test("room: a new object is small", RoomTests::newObject);
    Check.test("room: calls make nothing", RoomTests::calls);
  }

  private static long made() {
    ThreadMXBean threads = (ThreadMXBean) ManagementFactory.getThreadMXBean();
    return threads.getThreadAllocatedBytes(Thread.currentThread().getId());
  }

  private static void newObject() {
    new RunFaxes();
    long before = made();
    new RunFaxes();
    long bytes = made() - before;
    Check.holds("a new object has " + bytes + " bytes, few enough", bytes < BYTES_OF_AN_OBJECT);
  }

  private static void calls() {
    fill(new RunFaxes(), 1);
    RunFaxes x = new RunFaxes();
    long before = made();
    fill(x, 40);
    long bytes = made() - before;
    Check.holds("480 calls made " + bytes + " bytes, few enough", bytes < BYTES_OF_A_RUN);
  }

  private static void fill(RunFaxes x, int times) {
    for (int i = 0; i < times; i++) {
      if (x.lines() == 10) {
        x.dropLast();
      }
      x.addLine(0x555555 >> i % 8);
      x.send();
      x.receive();
      x.append('s');
      x.play();
      x.rightIfReplaced(0, 3);
      x.wouldReceive();
      x.keep();
      x.restore();
      x.digest();
    }
  }
}
