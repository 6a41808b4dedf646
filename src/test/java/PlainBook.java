import java.util.ArrayList;
import java.util.Arrays;
import java.util.HashSet;
import java.util.List;
import java.util.Set;

/**
 * The document said again in sets, word by word and without any care for speed: what each CHANGE KNOWS and each HAND
 * has is a set of numbers, and every COPY is worked out from them. ManyHands is held against it in RandomRunsTest.
 */
final class PlainBook {
  static final int BAD = -1, FULL = -2, FINDING = -3, STATE = -4, NONE = -9;
  private static final int NOTHING = 1, BEYOND = 2, UNLIKE = 3, NOUGHT = 4, SIZE = 5;

  private static final class Change {
    int hand, page, count, x;
    String act;
    long v;
    Set<Integer> knows;
  }

  private static final class Hand {
    Set<Integer> has = new HashSet<>();
    Set<Integer> waits = new HashSet<>();
    Set<Integer> unkept = new HashSet<>();
    List<Long> leaves = new ArrayList<>();
  }

  private final List<Hand> hands = new ArrayList<>();
  private final List<Integer> kinds = new ArrayList<>();
  private final List<Change> changes = new ArrayList<>();
  private final int[] findings = new int[6];
  private int finding;
  private long asked;

  int hand() {
    if (hands.size() == 6) return FULL;
    if (changes.size() > 0) return STATE;
    hands.add(new Hand());
    return hands.size() - 1;
  }

  int page(int kind) {
    if (kind < 0 || kind > 7) return BAD;
    if (kinds.size() == 10) return FULL;
    kinds.add(kind);
    return kinds.size() - 1;
  }

  int is(int page, int kind) {
    if (noPage(page) || kind < 0 || kind > 7) return BAD;
    return under(page, kind) ? 1 : 0;
  }

  int keep(int hand, int page, boolean does) {
    if (noHand(hand) || noPage(page)) return BAD;
    boolean did = !hands.get(hand).unkept.contains(page);
    if (does) hands.get(hand).unkept.remove(page); else hands.get(hand).unkept.add(page);
    return did ? 1 : 0;
  }

  int write(int hand, int page, long v) {
    int no = refuse(hand, page, 0, false);
    return no != 0 ? no : make(hand, page, "WRITE", 0, v);
  }

  int add(int hand, int page, long v) {
    int no = refuse(hand, page, 2, false);
    if (no != 0) return no;
    if (kinds.get(page) == 5 && (v < 0 || v > 1000000000L)) return found(BEYOND);
    return make(hand, page, "GET", 0, v);
  }

  int put(int hand, int page, int x) {
    int no = refuse(hand, page, 3, x < 0 || x > 63);
    return no != 0 ? no : make(hand, page, "PUT", x, 0);
  }

  int take(int hand, int page, int x) {
    int no = refuse(hand, page, 3, x < 0 || x > 63);
    if (no != 0) return no;
    return oftenIn(hand, page, x) == 0 ? found(BEYOND) : make(hand, page, "TAKE", x, 0);
  }

  int give(int hand, int page, int to, long v) {
    int no = refuse(hand, page, 5, noHand(to) || to == hand || v < 0 || v > 1000000000L);
    if (no != 0) return no;
    return rightsIn(hand, page, hand) < v ? found(BEYOND) : make(hand, page, "GIVE", to, v);
  }

  int spend(int hand, int page, long v) {
    int no = refuse(hand, page, 5, v < 0 || v > 1000000000L);
    if (no != 0) return no;
    return rightsIn(hand, page, hand) < v ? found(BEYOND) : make(hand, page, "SPEND", 0, v);
  }

  int raise(int hand, int page, boolean up) {
    int no = refuse(hand, page, 6, false);
    return no != 0 ? no : make(hand, page, up ? "UP" : "DOWN", 0, 0);
  }

  int change(int change, int what) {
    if (noChange(change) || what < 0 || what > 4) return BAD;
    Change c = changes.get(change);
    if (what == 0) return c.hand;
    if (what == 1) return c.page;
    if (what == 2) return c.count;
    if (what == 3) return c.knows.size();
    for (Hand h : hands) if (!h.has.contains(change)) return 0;
    return 1;
  }

  int knows(int change, int other) {
    if (noChange(change) || noChange(other)) return BAD;
    return changes.get(change).knows.contains(other) ? 1 : 0;
  }

  int come(int hand, int change) {
    if (noHand(hand) || noChange(change)) return BAD;
    if (hands.get(hand).has.contains(change)) return 2;
    return 10 + arrive(hand, change);
  }

  int meet(int hand, int other, int n) {
    if (noHand(hand) || noHand(other) || hand == other || n < 0) return BAD;
    int came = 0;
    while (came < n) {
      Set<Integer> lacking = new HashSet<>(hands.get(hand).has);
      lacking.removeAll(hands.get(other).has);
      if (lacking.isEmpty()) break;
      arrive(other, least(lacking));
      came++;
    }
    return came;
  }

  int lose(int hand) {
    if (noHand(hand)) return BAD;
    Hand h = hands.get(hand);
    int had = h.has.size();
    h.has.clear();
    h.waits.clear();
    h.unkept.clear();
    return had;
  }

  int told(int hand, int what) {
    if (noHand(hand) || what < 0 || what > 4) return BAD;
    Hand h = hands.get(hand);
    if (what == 0) return h.has.size();
    if (what == 1) return h.waits.size();
    if (what == 2) return greatestCount(h);
    int n = 0;
    for (int c = 0; c < changes.size(); c++) {
      if (changes.get(c).hand == hand && (what == 4 || h.has.contains(c))) n++;
    }
    return n;
  }

  int has(int hand, int change) {
    if (noHand(hand) || noChange(change)) return BAD;
    Hand h = hands.get(hand);
    return h.has.contains(change) ? 2 : h.waits.contains(change) ? 1 : 0;
  }

  int compare(int hand, int other) {
    if (noHand(hand) || noHand(other)) return BAD;
    Set<Integer> a = hands.get(hand).has;
    Set<Integer> b = hands.get(other).has;
    if (a.equals(b)) return 0;
    return b.containsAll(a) ? 1 : a.containsAll(b) ? 2 : 3;
  }

  int value(int hand, int page) {
    int no = unseen(hand, page, 0, false);
    if (no != 0) return no;
    int c = telling(hand, page);
    if (c == NONE) return NONE;
    asked = changes.get(c).v;
    return c;
  }

  int sum(int hand, int page) {
    int no = unseen(hand, page, 2, false);
    if (no != 0) return no;
    asked = total(hand, page);
    return there(hand, page).size();
  }

  int mean(int hand, int page) {
    int no = unseen(hand, page, 2, false);
    if (no != 0) return no;
    int many = there(hand, page).size();
    if (many == 0) return found(NOUGHT);
    asked = total(hand, page) / many;
    return 1;
  }

  int often(int hand, int page, int x) {
    int no = unseen(hand, page, 3, x < 0 || x > 63);
    return no != 0 ? no : oftenIn(hand, page, x);
  }

  int inside(int hand, int page, int i) {
    int no = unseen(hand, page, 3, false);
    if (no != 0) return no;
    List<Integer> in = new ArrayList<>();
    for (int x = 0; x <= 63; x++) if (oftenIn(hand, page, x) > 0) in.add(x);
    return i < 0 || i >= in.size() ? found(BEYOND) : in.get(i);
  }

  int heads(int hand, int page) {
    int no = unseen(hand, page, 4, false);
    return no != 0 ? no : headsOf(hand, page).size();
  }

  int head(int hand, int page, int i) {
    int no = unseen(hand, page, 4, false);
    if (no != 0) return no;
    List<Integer> all = headsOf(hand, page);
    if (i < 0 || i >= all.size()) return found(BEYOND);
    asked = changes.get(all.get(i)).v;
    return all.get(i);
  }

  int rights(int hand, int page, int of) {
    int no = unseen(hand, page, 5, noHand(of));
    if (no != 0) return no;
    asked = rightsIn(hand, page, of);
    return 1;
  }

  int up(int hand, int page) {
    int no = unseen(hand, page, 6, false);
    return no != 0 ? no : isUp(hand, page) ? 1 : 0;
  }

  int alike(int page, int hand, int other) {
    if (noPage(page) || noHand(hand) || noHand(other)) return BAD;
    return said(hand, page).equals(said(other, page)) ? 1 : 0;
  }

  int leaves(int hand, int n) {
    if (noHand(hand) || n > 16) return BAD;
    if (n < 0) return found(SIZE);
    hands.get(hand).leaves = new ArrayList<>(Arrays.asList(new Long[n]));
    return n;
  }

  int save(int hand, int i) {
    if (noHand(hand)) return BAD;
    List<Long> row = hands.get(hand).leaves;
    if (i < 0 || i >= row.size()) return found(BEYOND);
    row.set(i, asked);
    return 1;
  }

  int tear(int hand, int i) {
    if (noHand(hand)) return BAD;
    List<Long> row = hands.get(hand).leaves;
    if (i < 0 || i >= row.size()) return found(BEYOND);
    if (row.get(i) == null) return found(NOTHING);
    row.set(i, null);
    return 1;
  }

  int leaf(int hand, int i) {
    if (noHand(hand)) return BAD;
    List<Long> row = hands.get(hand).leaves;
    if (i < 0 || i >= row.size()) return found(BEYOND);
    if (row.get(i) == null) return found(NOTHING);
    asked = row.get(i);
    return 1;
  }

  int copy(int hand, int i, int other, int j, int n) {
    if (noHand(hand) || noHand(other)) return BAD;
    List<Long> from = hands.get(hand).leaves;
    List<Long> to = hands.get(other).leaves;
    boolean below = i < 0 || j < 0 || n < 0;
    if (below || (long) i + n > from.size() || (long) j + n > to.size()) return found(BEYOND);
    List<Long> ahead = new ArrayList<>(from.subList(i, i + n));
    for (int k = 0; k < n; k++) to.set(j + k, ahead.get(k));
    return 1;
  }

  long asked() {
    return asked;
  }

  int count(int what) {
    return what == 0 ? hands.size() : what == 1 ? kinds.size() : what == 2 ? changes.size() : BAD;
  }

  int finding() {
    return finding;
  }

  int findings(int f) {
    return f < 1 || f > 5 ? BAD : findings[f];
  }

  long digest(int hand) {
    if (noHand(hand)) return 0;
    List<Long> all = new ArrayList<>();
    for (int what = 0; what <= 4; what++) all.add((long) told(hand, what));
    for (int p = 0; p < kinds.size(); p++) {
      all.add((long) kinds.get(p));
      all.add(hands.get(hand).unkept.contains(p) ? 0L : 1L);
      all.addAll(said(hand, p));
    }
    for (Long leaf : hands.get(hand).leaves) {
      all.add(leaf == null ? -1L : 1L);
      if (leaf != null) all.add(leaf);
    }
    long h = 17;
    for (long v : all) h = 31 * h + v;
    return h;
  }

  // ---- terms

  private boolean noHand(int hand) {
    return hand < 0 || hand >= hands.size();
  }

  private boolean noPage(int page) {
    return page < 0 || page >= kinds.size();
  }

  private boolean noChange(int change) {
    return change < 0 || change >= changes.size();
  }

  private boolean under(int page, int kind) {
    int k = kinds.get(page);
    if (k == kind) return true;
    if (kind == 0) return k == 1 || k == 4;
    if (kind == 2) return k == 5;
    return kind == 6 && k == 7;
  }

  private int found(int f) {
    finding = f;
    findings[f]++;
    return FINDING;
  }

  private int unseen(int hand, int page, int kind, boolean bad) {
    if (bad || noHand(hand) || noPage(page)) return BAD;
    if (hands.get(hand).unkept.contains(page)) return found(NOTHING);
    return under(page, kind) ? 0 : found(UNLIKE);
  }

  private int refuse(int hand, int page, int kind, boolean bad) {
    if (bad || noHand(hand) || noPage(page)) return BAD;
    if (changes.size() == 400) return FULL;
    if (told(hand, 3) != told(hand, 4)) return STATE;
    return unseen(hand, page, kind, false);
  }

  private int greatestCount(Hand h) {
    int greatest = 0;
    for (int c : h.has) greatest = Math.max(greatest, changes.get(c).count);
    return greatest;
  }

  private int make(int hand, int page, String act, int x, long v) {
    Change c = new Change();
    c.hand = hand;
    c.page = page;
    c.act = act;
    c.x = x;
    c.v = v;
    c.count = greatestCount(hands.get(hand)) + 1;
    c.knows = new HashSet<>(hands.get(hand).has);
    changes.add(c);
    hands.get(hand).has.add(changes.size() - 1);
    return changes.size() - 1;
  }

  private boolean less(int a, int b) {
    Change p = changes.get(a);
    Change q = changes.get(b);
    return p.count != q.count ? p.count < q.count : p.hand < q.hand;
  }

  private int least(Iterable<Integer> some) {
    int least = NONE;
    for (int c : some) if (least == NONE || less(c, least)) least = c;
    return least;
  }

  private int arrive(int hand, int change) {
    Hand h = hands.get(hand);
    if (!h.has.containsAll(changes.get(change).knows)) {
      h.waits.add(change);
      return 0;
    }
    int taken = 0;
    for (int next = change; next != NONE; taken++) {
      h.waits.remove(next);
      h.has.add(next);
      List<Integer> ready = new ArrayList<>();
      for (int c : h.waits) if (h.has.containsAll(changes.get(c).knows)) ready.add(c);
      next = least(ready);
    }
    return taken;
  }

  /** The CHANGES of a PAGE that a HAND has. */
  private List<Integer> there(int hand, int page) {
    List<Integer> all = new ArrayList<>();
    for (int c : hands.get(hand).has) if (changes.get(c).page == page) all.add(c);
    return all;
  }

  private List<Integer> there(int hand, int page, String act) {
    List<Integer> all = new ArrayList<>();
    for (int c : there(hand, page)) if (changes.get(c).act.equals(act)) all.add(c);
    return all;
  }

  private boolean knownBy(int change, List<Integer> some) {
    for (int c : some) if (changes.get(c).knows.contains(change)) return true;
    return false;
  }

  private int telling(int hand, int page) {
    int best = NONE;
    for (int c : there(hand, page)) {
      if (best == NONE || (kinds.get(page) == 1 ? less(c, best) : less(best, c))) best = c;
    }
    return best;
  }

  private long total(int hand, int page) {
    long all = 0;
    if (kinds.get(page) == 5) {
      for (int of = 0; of < hands.size(); of++) all += rightsIn(hand, page, of);
      return all;
    }
    for (int c : there(hand, page)) all += changes.get(c).v;
    return all;
  }

  private long rightsIn(int hand, int page, int of) {
    long all = 0;
    for (int c : there(hand, page)) {
      Change g = changes.get(c);
      if (g.act.equals("GET") && g.hand == of) all += g.v;
      if (g.act.equals("GIVE") && g.hand == of) all -= g.v;
      if (g.act.equals("GIVE") && g.x == of) all += g.v;
      if (g.act.equals("SPEND") && g.hand == of) all -= g.v;
    }
    return all;
  }

  private int oftenIn(int hand, int page, int x) {
    int n = 0;
    for (int p : there(hand, page, "PUT")) {
      if (changes.get(p).x != x) continue;
      boolean gone = false;
      for (int t : there(hand, page, "TAKE")) {
        if (changes.get(t).x == x && changes.get(t).knows.contains(p)) gone = true;
      }
      if (!gone) n++;
    }
    return n;
  }

  private List<Integer> headsOf(int hand, int page) {
    List<Integer> heads = new ArrayList<>();
    for (int c : there(hand, page)) if (!knownBy(c, there(hand, page))) heads.add(c);
    heads.sort((a, b) -> less(a, b) ? -1 : less(b, a) ? 1 : 0);
    return heads;
  }

  private boolean isUp(int hand, int page) {
    List<Integer> ups = there(hand, page, "UP");
    List<Integer> downs = there(hand, page, "DOWN");
    if (kinds.get(page) == 7) {
      for (int d : downs) if (!knownBy(d, ups)) return false;
      return !ups.isEmpty();
    }
    for (int u : ups) if (!knownBy(u, downs)) return true;
    return false;
  }

  private List<Long> said(int hand, int page) {
    List<Long> all = new ArrayList<>();
    if (under(page, 0)) {
      int c = telling(hand, page);
      all.add((long) c);
      all.add(c == NONE ? 0 : changes.get(c).v);
    }
    if (under(page, 4)) {
      List<Integer> heads = headsOf(hand, page);
      all.add((long) heads.size());
      for (int h : heads) all.add((long) h);
    }
    if (under(page, 2)) {
      all.add(total(hand, page));
      all.add((long) there(hand, page).size());
    }
    if (under(page, 5)) for (int of = 0; of <= 5; of++) all.add(rightsIn(hand, page, of));
    if (under(page, 3)) for (int x = 0; x <= 63; x++) all.add((long) oftenIn(hand, page, x));
    if (under(page, 6)) {
      all.add(isUp(hand, page) ? 1L : 0L);
      all.add((long) there(hand, page, "UP").size());
      all.add((long) there(hand, page, "DOWN").size());
    }
    return all;
  }
}
