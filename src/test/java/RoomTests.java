import java.lang.management.ManagementFactory;

/**
 * What whole runs of 512 calls make must stay far below one room (7.3 million fields and elements). Bytes are measured:
 * no element has more than 8 of them.
 */
public final class RoomTests {
  private static final int CALLS = 512;
  private static final long MOST_BYTES = 1_000_000;
  private static final com.sun.management.ThreadMXBean METER =
      (com.sun.management.ThreadMXBean) ManagementFactory.getThreadMXBean();

  private RoomTests() { }

  private static void dearCall(PegCourt x, int kind, int i) {
    switch (kind) {
      case 0: x.begin(1 + i % 5, 1 + i / 5 % 8); break;
      case 1: x.rack(i % 6, 1 + i % 3, 60); break;
      case 2: x.show(i % 64); x.keep(i % 6); x.toss(i % 6); break;
      case 3: if (i % 2 == 0) x.show(i % 64); else if (x.tell(i % 31) < 0) x.undo(); break;
      case 4: x.enlist(i * 7 % 64); x.law(3, 0); x.tree(i % 2, 0); break;
      case 5: x.begin(1, 3 + i % 6); x.tree(i % 2, 0); x.best(0, i % 2, 0); break;
      case 6: x.like(i % 64, i * 5 % 64); x.among(i % 4); break;
      default: x.plan(i == 0 ? -1 : i % 40, i % 31, i % 64); x.judge(); break;
    }
  }

  private static long bytesOf(int kind) {
    long before = METER.getCurrentThreadAllocatedBytes();
    PegCourt x = new PegCourt();
    for (int i = 0; i < CALLS; i++) dearCall(x, kind, i);
    return METER.getCurrentThreadAllocatedBytes() - before;
  }

  public static void main(String[] args) {
    int wrong = 0;
    bytesOf(0);
    for (int kind = 0; kind <= 7; kind++) {
      long bytes = bytesOf(kind);
      System.out.println("runs of kind " + kind + " make " + bytes + " bytes");
      if (bytes > MOST_BYTES) wrong++;
    }
    if (wrong != 0) System.exit(1);
  }
}
