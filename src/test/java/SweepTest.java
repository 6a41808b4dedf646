import java.lang.reflect.InvocationTargetException;
import java.lang.reflect.Method;
import java.util.ArrayList;
import java.util.Arrays;
import java.util.Comparator;
import java.util.List;

/**
 * Every call of the face with every set of arguments drawn from the edges, in several states: never an exception, and
 * the answers are those of PlainBook. An object gets no more calls than the document promises answers for.
 */
public final class SweepTest {
  private static final int[] MANY_EDGES = {
    Integer.MIN_VALUE, -9, -1, 0, 1, 2, 4, 5, 6, 9, 10, 15, 16, 17, 63, 64, 399, 400, Integer.MAX_VALUE};
  private static final int[] FEW_EDGES = {-1, 0, 1, 5, 6, 10, 64, 399, 400};
  private static final int[] PLACES = {-1, 0, 1, 2, 3, Integer.MAX_VALUE};
  private static final long[] AMOUNTS = {Long.MIN_VALUE, -1, 0, 5, 1000000000L, 1000000001L, Long.MAX_VALUE};
  private static final boolean[] BOTH = {false, true};

  private final Dues dues = new Dues("SweepTest");
  private final List<Method> face = new ArrayList<>();
  private ManyHands x;
  private PlainBook plain;
  private Runnable state;
  private String stateName;
  private int[] edges;
  private int calls;

  public static void main(String[] args) {
    SweepTest t = new SweepTest();
    for (Method m : ManyHands.class.getMethods()) {
      if (m.getDeclaringClass() == ManyHands.class) t.face.add(m);
    }
    t.face.sort(Comparator.comparing(Method::getName));
    t.sweep("a new object", MANY_EDGES, () -> { });
    t.sweep("HANDS alone", MANY_EDGES, () -> t.start(3, 0));
    t.sweep("PAGES alone", MANY_EDGES, () -> t.start(0, 10));
    t.sweep("a small book", MANY_EDGES, t::smallBook);
    t.sweep("a book whose HANDS lost some", MANY_EDGES, t::lostBook);
    t.sweep("as many HANDS and PAGES as there may be", MANY_EDGES, () -> t.start(6, 10));
    t.sweep("as many CHANGES as there may be", FEW_EDGES, t::fullBook);
    t.dues.end();
  }

  private void sweep(String name, int[] some, Runnable way) {
    stateName = name;
    edges = some;
    state = way;
    renew();
    for (Method m : face) vary(m, new Object[m.getParameterCount()], 0);
  }

  private void renew() {
    x = new ManyHands();
    plain = new PlainBook();
    calls = 0;
    state.run();
  }

  private void vary(Method m, Object[] args, int at) {
    if (at == args.length) {
      ask(m.getName(), m.getParameterTypes(), args);
      if (calls >= Rows.MOST_CALLS) renew();
      return;
    }
    Class<?> type = m.getParameterTypes()[at];
    if (type == boolean.class) {
      for (boolean b : BOTH) vary(m, with(args, at, b), at + 1);
    } else if (type == long.class) {
      for (long v : AMOUNTS) vary(m, with(args, at, v), at + 1);
    } else {
      for (int n : args.length > 3 ? PLACES : edges) vary(m, with(args, at, n), at + 1);
    }
  }

  private static Object[] with(Object[] args, int at, Object value) {
    args[at] = value;
    return args;
  }

  private void call(String name, Object... args) {
    Class<?>[] types = new Class<?>[args.length];
    for (int i = 0; i < args.length; i++) {
      types[i] = args[i] instanceof Boolean ? boolean.class : args[i] instanceof Long ? long.class : int.class;
    }
    ask(name, types, args);
  }

  private void ask(String name, Class<?>[] types, Object[] args) {
    calls++;
    long got = answer(x, name, types, args);
    long want = answer(plain, name, types, args);
    // the text is dear: it is made only where it will be printed
    dues.due(got == want ? "" : stateName + ": call " + calls + ", " + name + Arrays.toString(args), got, want);
  }

  private static long answer(Object book, String name, Class<?>[] types, Object[] args) {
    try {
      return ((Number) book.getClass().getDeclaredMethod(name, types).invoke(book, args)).longValue();
    } catch (InvocationTargetException e) {
      throw new IllegalStateException(name + Arrays.toString(args) + " threw " + e.getCause(), e.getCause());
    } catch (ReflectiveOperationException e) {
      throw new IllegalStateException(e);
    }
  }

  // ---- states

  private void start(int hands, int pages) {
    for (int i = 0; i < hands; i++) call("hand");
    for (int i = 0; i < pages; i++) call("page", i % 8);
  }

  private void smallBook() {
    start(3, 8);
    for (int h = 0; h < 2; h++) changesOf(h);
    call("meet", 0, 1, 9);
    call("give", 0, 5, 1, 2L);
    call("come", 2, 1);
    call("take", 1, 3, 1);
    call("keep", 1, 2, false);
    call("leaves", 0, 2);
    call("leaves", 1, 3);
    call("value", 0, 0);
    call("save", 0, 1);
    call("save", 1, 0);
  }

  private void changesOf(int h) {
    call("write", h, 0, -7L);
    call("write", h, 1, 8L);
    call("add", h, 2, Long.MAX_VALUE);
    call("put", h, 3, 1);
    call("put", h, 3, 63);
    call("write", h, 4, 5L + h);
    call("add", h, 5, 5L);
    call("raise", h, 6, h == 0);
    call("raise", h, 7, true);
  }

  private void lostBook() {
    smallBook();
    call("lose", 0);
    call("come", 0, 0);
    call("come", 0, 5);
    call("keep", 0, 3, false);
    call("meet", 1, 2, 4);
  }

  private void fullBook() {
    start(6, 10);
    for (int i = 0; i < 400; i++) call("write", i % 6, i % 3 == 0 ? 0 : i % 3 == 1 ? 1 : 4, (long) i);
    call("meet", 0, 1, 400);
    call("come", 2, 399);
    call("lose", 3);
    call("keep", 4, 4, false);
    call("leaves", 5, 16);
    call("save", 5, 15);
  }
}
