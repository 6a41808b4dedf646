import com.sun.management.ThreadMXBean;
import java.lang.management.ManagementFactory;

/** What a run of 512 dear calls allocates stays far below the room that all calls of a run share; questions take none. */
public final class RoomTest {
  private static final int CALLS = 512;
  private static final long MOST_BYTES = 200000;
  private static final ThreadMXBean BEAN = (ThreadMXBean) ManagementFactory.getThreadMXBean();

  public static void main(String[] args) {
    Dues dues = new Dues("RoomTest");
    for (int kind = 0; kind < 8; kind++) {
      changesAndQuestions(kind);
      long before = BEAN.getThreadAllocatedBytes(Thread.currentThread().getId());
      changesAndQuestions(kind);
      long bytes = BEAN.getThreadAllocatedBytes(Thread.currentThread().getId()) - before;
      System.out.println("RoomTest: kind " + kind + ": " + bytes + " bytes");
      dues.due("a run on PAGES of KIND " + kind + " takes few bytes", bytes <= MOST_BYTES);
      bytesOfQuestions(kind);
      dues.due("questions to PAGES of KIND " + kind + " take no bytes", bytesOfQuestions(kind), 0);
    }
    dues.end();
  }

  private static ManyHands fullOf(int kind) {
    ManyHands x = new ManyHands();
    for (int i = 0; i < 6; i++) x.hand();
    for (int i = 0; i < 10; i++) x.page(kind);
    for (int i = 0; i < 400; i++) makeOne(x, kind, i % 6, i % 10, i);
    return x;
  }

  private static long bytesOfQuestions(int kind) {
    ManyHands x = fullOf(kind);
    x.meet(0, 1, 400);
    long before = BEAN.getThreadAllocatedBytes(Thread.currentThread().getId());
    ask(x, 1, 2);
    x.leaves(1, 16);
    x.save(1, 3);
    x.copy(1, 2, 1, 3, 5);
    x.leaf(1, 4);
    x.tear(1, 3);
    return BEAN.getThreadAllocatedBytes(Thread.currentThread().getId()) - before;
  }

  private static void ask(ManyHands x, int hand, int page) {
    x.value(hand, page);
    x.sum(hand, page);
    x.mean(hand, page);
    x.often(hand, page, 2);
    x.inside(hand, page, 1);
    x.heads(hand, page);
    x.head(hand, page, 1);
    x.rights(hand, page, 0);
    x.up(hand, page);
    x.alike(page, hand, 0);
    x.is(page, 1);
    x.keep(hand, page, true);
    x.change(3, 3);
    x.change(3, 4);
    x.knows(3, 2);
    x.told(hand, 0);
    x.has(hand, 3);
    x.compare(hand, 0);
    x.count(2);
    x.asked();
    x.finding();
    x.findings(3);
    x.digest(hand);
  }

  private static void changesAndQuestions(int kind) {
    ManyHands x = fullOf(kind);
    for (int i = 16 + 400; i < CALLS; i++) {
      if (i % 3 == 0) x.digest(i % 6);
      if (i % 3 == 1) x.meet(i % 6, (i + 1) % 6, 400);
      if (i % 3 == 2) x.come(i % 6, i % 400);
    }
  }

  private static void makeOne(ManyHands x, int kind, int hand, int page, int i) {
    if (kind == 0 || kind == 1 || kind == 4) x.write(hand, page, i);
    if (kind == 2 || kind == 5) x.add(hand, page, i);
    if (kind == 3) x.put(hand, page, i % 64);
    if (kind == 6 || kind == 7) x.raise(hand, page, i % 2 == 0);
  }
}
