import java.lang.management.ManagementFactory;

/** The dearest calls, 512 of each: what they leave in the room, and that they end soon. */
public final class LoadTest {
  private static int failed = 0;

  private interface Call {
    int on(EqualPlain p, int i);
  }

  /** A bean counts what this thread has made, in bytes: a loop that made an object a step would show. */
  private static void load(String name, int kind, int houses, Call call) {
    EqualPlain p = new EqualPlain();
    int[] at = {38, 40, 26, 52, 75, 93, 11, 132, 143, 64};
    for (int h = 0; h < houses; h++) p.grace(kind, at[h] % 12, at[h] / 12);
    var threads = (com.sun.management.ThreadMXBean) ManagementFactory.getThreadMXBean();
    long before = threads.getCurrentThreadAllocatedBytes();
    long start = System.nanoTime();
    for (int i = 0; i < 512; i++) call.on(p, i);
    long made = threads.getCurrentThreadAllocatedBytes() - before;
    long took = (System.nanoTime() - start) / 1000000;
    boolean good = made < 512 * 200 && took < 20000;
    if (!good) failed++;
    System.out.println((good ? "" : "TOO MUCH: ") + name + ": " + made + " bytes made, " + took + " ms");
  }

  public static void main(String[] args) {
    for (int kind : new int[] {0, 5, 2}) {
      for (int houses : new int[] {2, 4, 9}) {
        String of = " of " + houses + " of kind " + kind;
        load("huts" + of, kind, houses, (p, i) -> p.huts(i % 12, i / 12 % 12));
        load("opened" + of, kind, houses, (p, i) -> p.opened(i % 7));
        load("ever" + of, kind, houses, (p, i) -> p.ever(i % 12));
        load("dearest" + of, kind, houses, (p, i) -> p.dearest());
        load("kindFor" + of, kind, houses, (p, i) -> p.kindFor(0));
        load("founders" + of, kind, houses, (p, i) -> p.founders(1));
        load("text" + of, kind, houses, (p, i) -> i % 2 == 0 ? p.feed(0x636f696e, 4) : p.text());
      }
    }
    load("when", 0, 0, (p, i) -> p.when());
    System.out.println(failed == 0 ? "no call makes too much" : failed + " loads are too much");
    if (failed > 0) System.exit(1);
  }
}
