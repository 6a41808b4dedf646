import java.util.Random;

/** Runs of 512 calls with drawn arguments (the same ones each time), on ManyHands and on PlainBook: same answers. */
public final class RandomRunsTest {
  private static final int RUNS = 600;
  /** With the eight questions at the end these are the 512 calls that the document promises answers for. */
  private static final int CALLS = 504;
  private static final String[] MAKING = {"write", "add", "put", "take", "give", "spend", "raise"};
  private static final String[] MOVING = {"come", "come", "come", "meet", "meet", "lose", "keep"};
  private static final String[] ASKING = {
    "is", "change", "knows", "told", "has", "compare", "value", "sum", "mean", "often", "inside", "heads", "head",
    "rights", "up", "alike", "leaves", "save", "tear", "leaf", "copy", "asked", "count", "finding", "findings",
    "digest", "digest", "alike", "hand", "page"};
  private static final long[] EDGES = {
    0, 1, -1, 1000000000L, 1000000001L, Long.MAX_VALUE, Long.MIN_VALUE, Integer.MAX_VALUE};

  private final Random draw;
  private final ManyHands x = new ManyHands();
  private final PlainBook plain = new PlainBook();
  private final StringBuilder story = new StringBuilder();
  private long got;
  private long want;

  private RandomRunsTest(long seed) {
    draw = new Random(seed);
  }

  public static void main(String[] args) {
    Dues dues = new Dues("RandomRunsTest");
    for (int run = 0; run < RUNS; run++) {
      new RandomRunsTest(run).play(run, dues);
    }
    dues.end();
  }

  private void play(int run, Dues dues) {
    int hands = 1 + draw.nextInt(6);
    int pages = 1 + draw.nextInt(10);
    int making = 15 + draw.nextInt(75);
    int moving = draw.nextInt(100 - making + 1);
    int oneKind = draw.nextInt(3) == 0 ? draw.nextInt(8) : -1;
    for (int call = 0; call < CALLS; call++) {
      String said;
      if (call < hands) {
        said = ask("hand");
      } else if (call < hands + pages) {
        said = page(oneKind < 0 ? draw.nextInt(8) : oneKind);
      } else {
        said = ask(name(making, moving));
      }
      story.append(said).append(" = ").append(want).append('\n');
      dues.due("run " + run + ", call " + call + ", " + said, got, want);
      if (got != want) {
        System.out.println(story);
        dues.end();
      }
    }
    for (int h = -1; h <= 6; h++) {
      dues.due("run " + run + ", at the end digest(" + h + ")", x.digest(h), plain.digest(h));
    }
  }

  private String name(int making, int moving) {
    int n = draw.nextInt(100);
    String[] some = n < making ? MAKING : n < making + moving ? MOVING : ASKING;
    return some[draw.nextInt(some.length)];
  }

  private int below(int bound) {
    if (draw.nextInt(40) == 0) return (int) EDGES[draw.nextInt(EDGES.length)];
    if (draw.nextInt(40) == 0) return bound;
    return bound <= 0 ? 0 : draw.nextInt(bound);
  }

  private int hand() {
    return below(plain.count(0));
  }

  private int page() {
    return below(plain.count(1));
  }

  private int change() {
    return below(plain.count(2));
  }

  private int thing() {
    return draw.nextInt(8) == 0 ? below(64) : below(4);
  }

  private int leaf() {
    return draw.nextInt(6) - 1;
  }

  private long number() {
    return draw.nextInt(4) == 0 ? EDGES[draw.nextInt(EDGES.length)] : draw.nextInt(30) - 4;
  }

  private long amount() {
    return draw.nextInt(10) == 0 ? EDGES[draw.nextInt(EDGES.length)] : draw.nextInt(12);
  }

  /** A PAGE that a call fits, most of the time: else nearly all would be UNLIKE. */
  private int pageOf(int kind) {
    for (int i = 0; i < 12; i++) {
      int p = page();
      if (plain.is(p, kind) == 1) return p;
    }
    return page();
  }

  private String page(int kind) {
    got = x.page(kind);
    want = plain.page(kind);
    return "page(" + kind + ")";
  }

  private static String told(String name, Object... args) {
    StringBuilder s = new StringBuilder(name).append('(');
    for (int i = 0; i < args.length; i++) s.append(i == 0 ? "" : ", ").append(args[i]);
    return s.append(')').toString();
  }

  private String ask(String name) {
    switch (name) {
      case "write": case "add": case "put": case "take": case "give": case "spend": case "raise":
        return make(name);
      case "come": case "meet": case "lose": case "keep": case "told": case "has": case "compare":
        return move(name);
      case "value": case "sum": case "mean": case "often": case "inside": case "heads": case "head":
      case "rights": case "up": case "alike":
        return look(name);
      case "leaves": case "save": case "tear": case "leaf": case "copy":
        return turn(name);
      default:
        return other(name);
    }
  }

  private String make(String name) {
    int h = hand();
    switch (name) {
      case "write": { int p = pageOf(0); long v = number();
        got = x.write(h, p, v); want = plain.write(h, p, v); return told(name, h, p, v); }
      case "add": { int p = pageOf(2); long v = number();
        got = x.add(h, p, v); want = plain.add(h, p, v); return told(name, h, p, v); }
      case "put": { int p = pageOf(3); int t = thing();
        got = x.put(h, p, t); want = plain.put(h, p, t); return told(name, h, p, t); }
      case "take": { int p = pageOf(3); int t = thing();
        got = x.take(h, p, t); want = plain.take(h, p, t); return told(name, h, p, t); }
      case "give": { int p = pageOf(5); int to = hand(); long v = amount();
        got = x.give(h, p, to, v); want = plain.give(h, p, to, v); return told(name, h, p, to, v); }
      case "spend": { int p = pageOf(5); long v = amount();
        got = x.spend(h, p, v); want = plain.spend(h, p, v); return told(name, h, p, v); }
      default: { int p = pageOf(6); boolean up = draw.nextInt(3) > 0;
        got = x.raise(h, p, up); want = plain.raise(h, p, up); return told(name, h, p, up); }
    }
  }

  private String move(String name) {
    int h = hand();
    switch (name) {
      case "come": { int c = change(); got = x.come(h, c); want = plain.come(h, c); return told(name, h, c); }
      case "meet": { int o = hand(); int n = draw.nextInt(3) == 0 ? below(500) : draw.nextInt(4);
        got = x.meet(h, o, n); want = plain.meet(h, o, n); return told(name, h, o, n); }
      case "lose": { int one = draw.nextInt(4) == 0 ? h : 99;
        got = x.lose(one); want = plain.lose(one); return told(name, one); }
      case "keep": { int p = page(); boolean does = draw.nextInt(3) > 0;
        got = x.keep(h, p, does); want = plain.keep(h, p, does); return told(name, h, p, does); }
      case "told": { int w = below(5); got = x.told(h, w); want = plain.told(h, w); return told(name, h, w); }
      case "has": { int c = change(); got = x.has(h, c); want = plain.has(h, c); return told(name, h, c); }
      default: { int o = hand(); got = x.compare(h, o); want = plain.compare(h, o); return told(name, h, o); }
    }
  }

  private String look(String name) {
    int h = hand();
    switch (name) {
      case "value": { int p = pageOf(0); got = x.value(h, p); want = plain.value(h, p); return told(name, h, p); }
      case "sum": { int p = pageOf(2); got = x.sum(h, p); want = plain.sum(h, p); return told(name, h, p); }
      case "mean": { int p = pageOf(2); got = x.mean(h, p); want = plain.mean(h, p); return told(name, h, p); }
      case "often": { int p = pageOf(3); int t = thing();
        got = x.often(h, p, t); want = plain.often(h, p, t); return told(name, h, p, t); }
      case "inside": { int p = pageOf(3); int i = leaf();
        got = x.inside(h, p, i); want = plain.inside(h, p, i); return told(name, h, p, i); }
      case "heads": { int p = pageOf(4); got = x.heads(h, p); want = plain.heads(h, p); return told(name, h, p); }
      case "head": { int p = pageOf(4); int i = leaf();
        got = x.head(h, p, i); want = plain.head(h, p, i); return told(name, h, p, i); }
      case "rights": { int p = pageOf(5); int of = hand();
        got = x.rights(h, p, of); want = plain.rights(h, p, of); return told(name, h, p, of); }
      case "up": { int p = pageOf(6); got = x.up(h, p); want = plain.up(h, p); return told(name, h, p); }
      default: { int p = page(); int o = hand();
        got = x.alike(p, h, o); want = plain.alike(p, h, o); return told(name, p, h, o); }
    }
  }

  private String turn(String name) {
    int h = hand();
    int i = leaf();
    switch (name) {
      case "leaves": { int n = draw.nextInt(4) == 0 ? below(18) : 4;
        got = x.leaves(h, n); want = plain.leaves(h, n); return told(name, h, n); }
      case "save": got = x.save(h, i); want = plain.save(h, i); return told(name, h, i);
      case "tear": got = x.tear(h, i); want = plain.tear(h, i); return told(name, h, i);
      case "leaf": got = x.leaf(h, i); want = plain.leaf(h, i); return told(name, h, i);
      default: { int o = hand(); int j = leaf(); int n = draw.nextInt(20) == 0 ? Integer.MAX_VALUE : leaf();
        got = x.copy(h, i, o, j, n); want = plain.copy(h, i, o, j, n); return told(name, h, i, o, j, n); }
    }
  }

  private String other(String name) {
    switch (name) {
      case "hand": got = x.hand(); want = plain.hand(); return told(name);
      case "page": { int k = below(8); return page(k); }
      case "is": { int p = page(); int k = below(8); got = x.is(p, k); want = plain.is(p, k); return told(name, p, k); }
      case "change": { int c = change(); int w = below(5);
        got = x.change(c, w); want = plain.change(c, w); return told(name, c, w); }
      case "knows": { int c = change(); int o = change();
        got = x.knows(c, o); want = plain.knows(c, o); return told(name, c, o); }
      case "asked": got = x.asked(); want = plain.asked(); return told(name);
      case "count": { int w = below(3); got = x.count(w); want = plain.count(w); return told(name, w); }
      case "finding": got = x.finding(); want = plain.finding(); return told(name);
      case "findings": { int f = 1 + below(5); got = x.findings(f); want = plain.findings(f); return told(name, f); }
      default: { int h = hand(); got = x.digest(h); want = plain.digest(h); return told(name, h); }
    }
  }
}
