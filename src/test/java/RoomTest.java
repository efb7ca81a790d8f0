import java.lang.management.ManagementFactory;

/** All calls of one run live in one room: an object is small, and its calls make none. */
public final class RoomTest {
  private static final int MOST_ELEMENTS = 100000;

  public static void main(String[] args) {
    Check check = new Check("RoomTest");
    com.sun.management.ThreadMXBean bean = (com.sun.management.ThreadMXBean) ManagementFactory.getThreadMXBean();
    long thread = Thread.currentThread().getId();
    run();
    run();
    long before = bean.getThreadAllocatedBytes(thread);
    new GuildCharter();
    long made = bean.getThreadAllocatedBytes(thread) - before;
    System.out.println("RoomTest: a new object takes " + made + " bytes");
    check.due("a new object takes at most " + MOST_ELEMENTS + " numbers", made <= 4L * MOST_ELEMENTS, true);
    before = bean.getThreadAllocatedBytes(thread);
    run();
    long whole = bean.getThreadAllocatedBytes(thread) - before - made;
    System.out.println("RoomTest: a run of dear calls takes " + whole + " bytes more");
    check.due("a run of dear calls takes next to nothing more", whole < 60000, true);
    check.finish();
  }

  private static void run() {
    GuildCharter x = Check.made("word a 51 50 50; word b 50 51 50; word c 50 50 52; word d 60 1 1; pair a b 51 55 50;"
        + "rule s = x or x s or s x; rule x = a or b or c or d; length 5;");
    for (int i = 0; i < 20; i++) {
      x.written(i % 3);
      x.held(1 + i % 7);
      x.share(i % 3, i % 2);
      x.swap();
      x.bribe(i % 5, i % 4);
      x.doubtful();
      x.lots(i % 3);
      x.orders(0);
      x.fit();
      x.best(i % 3);
      x.hole(i % 5, i % 4);
      x.write(i % 4);
      x.readings();
      x.next();
      x.used();
      x.struck(0);
      x.image(0);
      x.back(0);
      x.undo();
      x.wipe();
    }
  }
}
