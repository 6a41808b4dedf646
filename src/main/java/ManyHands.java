import java.util.ArrayList;

/** One book kept by many hands without a master; ../shared/DOC.md says what each call answers. */
public final class ManyHands {
  public static final int BAD = -1, FULL = -2, FINDING = -3, STATE = -4, NONE = -9;

  private static final int MOST_HANDS = 6, MOST_PAGES = 10, MOST_CHANGES = 400;
  private static final int MOST_LEAVES = 16, BAG_THINGS = 64;
  private static final long MOST_RIGHTS = 1000000000L;

  private static final int LAST = 0, FIRST = 1, TALLY = 2, BAG = 3, MANY = 4, PURSE = 5, FLAG = 6, CALM = 7;
  /** The KIND that each KIND is under; one that is under none stands for itself. */
  private static final int[] ABOVE = {LAST, LAST, TALLY, BAG, LAST, TALLY, FLAG, FLAG};

  private static final int NOTHING = 1, BEYOND = 2, UNLIKE = 3, NOUGHT = 4, SIZE = 5;

  private static final int WRITTEN = 0, GOT = 1, GIVEN = 2, SPENT = 3, PUT = 4, TAKEN = 5, UP = 6, DOWN = 7;

  private static final int ALLOWED = 0;
  private static final int IT_HAS = 2, IT_WAITS = 1, CAME = 10;
  private static final int THERE = 1, MISSING = -1;

  private final Hand[] hands = new Hand[MOST_HANDS];
  private final Page[] pages = new Page[MOST_PAGES];
  private final ArrayList<Entry> entries = new ArrayList<>();
  private final int[] timesFound = new int[SIZE + 1];
  private final Telling telling = new Telling();
  private final Telling otherTelling = new Telling();
  private int handCount;
  private int pageCount;
  private int latestFinding;
  private long latestTold;

  public ManyHands() {
  }

  // ---- 1 hands, pages

  public int hand() {
    if (handCount >= MOST_HANDS) {
      return FULL;
    }
    if (!entries.isEmpty()) {
      return STATE;
    }
    hands[handCount] = new Hand(handCount);
    handCount++;
    return handCount - 1;
  }

  public int page(int kind) {
    if (!isKind(kind)) {
      return BAD;
    }
    if (pageCount >= MOST_PAGES) {
      return FULL;
    }
    pages[pageCount] = new Page(pageCount, kind);
    pageCount++;
    return pageCount - 1;
  }

  public int is(int page, int kind) {
    Page p = pageAt(page);
    if (p == null || !isKind(kind)) {
      return BAD;
    }
    return oneIf(p.isUnder(kind));
  }

  public int keep(int hand, int page, boolean does) {
    Hand h = handAt(hand);
    Page p = pageAt(page);
    if (h == null || p == null) {
      return BAD;
    }
    boolean did = !h.ignored[p.number];
    h.ignored[p.number] = !does;
    return oneIf(did);
  }

  // ---- 2 changes

  public int write(int hand, int page, long v) {
    Hand h = handAt(hand);
    Page p = pageAt(page);
    if (h == null || p == null) {
      return BAD;
    }
    int refusal = refusalToChange(h, p, LAST);
    return refusal != ALLOWED ? refusal : make(h, p, WRITTEN, 0, v);
  }

  public int add(int hand, int page, long v) {
    Hand h = handAt(hand);
    Page p = pageAt(page);
    if (h == null || p == null) {
      return BAD;
    }
    int refusal = refusalToChange(h, p, TALLY);
    if (refusal != ALLOWED) {
      return refusal;
    }
    if (p.kind == PURSE && !isAmount(v)) {
      return found(BEYOND);
    }
    return make(h, p, GOT, 0, v);
  }

  public int put(int hand, int page, int x) {
    Hand h = handAt(hand);
    Page p = pageAt(page);
    if (h == null || p == null || !isThing(x)) {
      return BAD;
    }
    int refusal = refusalToChange(h, p, BAG);
    return refusal != ALLOWED ? refusal : make(h, p, PUT, x, 0);
  }

  public int take(int hand, int page, int x) {
    Hand h = handAt(hand);
    Page p = pageAt(page);
    if (h == null || p == null || !isThing(x)) {
      return BAD;
    }
    int refusal = refusalToChange(h, p, BAG);
    if (refusal != ALLOWED) {
      return refusal;
    }
    if (p.timesIn(h.reach, x) == 0) {
      return found(BEYOND);
    }
    return make(h, p, TAKEN, x, 0);
  }

  public int give(int hand, int page, int to, long v) {
    Hand h = handAt(hand);
    Page p = pageAt(page);
    if (h == null || p == null || handAt(to) == null || hand == to || !isAmount(v)) {
      return BAD;
    }
    return makeOfRights(h, p, GIVEN, to, v);
  }

  public int spend(int hand, int page, long v) {
    Hand h = handAt(hand);
    Page p = pageAt(page);
    if (h == null || p == null || !isAmount(v)) {
      return BAD;
    }
    return makeOfRights(h, p, SPENT, 0, v);
  }

  public int raise(int hand, int page, boolean up) {
    Hand h = handAt(hand);
    Page p = pageAt(page);
    if (h == null || p == null) {
      return BAD;
    }
    int refusal = refusalToChange(h, p, FLAG);
    return refusal != ALLOWED ? refusal : make(h, p, up ? UP : DOWN, 0, 0);
  }

  public int change(int change, int what) {
    Entry e = entryAt(change);
    if (e == null) {
      return BAD;
    }
    switch (what) {
      case 0:
        return e.maker;
      case 1:
        return e.page;
      case 2:
        return e.stampCount;
      case 3:
        return e.known.size();
      case 4:
        return oneIf(allHave(e));
      default:
        return BAD;
    }
  }

  public int knows(int change, int other) {
    Entry e = entryAt(change);
    Entry o = entryAt(other);
    if (e == null || o == null) {
      return BAD;
    }
    return oneIf(e.known.holds(o));
  }

  // ---- 3 what comes

  public int come(int hand, int change) {
    Hand h = handAt(hand);
    Entry e = entryAt(change);
    if (h == null || e == null) {
      return BAD;
    }
    return h.reach.holds(e) ? IT_HAS : CAME + h.receive(e);
  }

  public int meet(int hand, int other, int n) {
    Hand giver = handAt(hand);
    Hand receiver = handAt(other);
    if (giver == null || receiver == null || hand == other || n < 0) {
      return BAD;
    }
    int most = Math.min(n, MOST_CHANGES);
    for (int came = 0; came < most; came++) {
      Entry e = leastLacking(giver, receiver);
      if (e == null) {
        return came;
      }
      receiver.receive(e);
    }
    return most;
  }

  public int lose(int hand) {
    Hand h = handAt(hand);
    return h == null ? BAD : h.forget();
  }

  public int told(int hand, int what) {
    Hand h = handAt(hand);
    if (h == null || what < 0 || what > 4) {
      return BAD;
    }
    return h.report(what);
  }

  public int has(int hand, int change) {
    Hand h = handAt(hand);
    Entry e = entryAt(change);
    if (h == null || e == null) {
      return BAD;
    }
    if (h.reach.holds(e)) {
      return IT_HAS;
    }
    return h.awaits(e) ? IT_WAITS : 0;
  }

  public int compare(int hand, int other) {
    Hand h = handAt(hand);
    Hand o = handAt(other);
    if (h == null || o == null) {
      return BAD;
    }
    boolean within = o.reach.covers(h.reach);
    boolean around = h.reach.covers(o.reach);
    if (within) {
      return around ? 0 : 1;
    }
    return around ? 2 : 3;
  }

  // ---- 4 copies

  public int value(int hand, int page) {
    Hand h = handAt(hand);
    Page p = pageAt(page);
    if (h == null || p == null) {
      return BAD;
    }
    int refusal = refusalToSee(h, p, LAST);
    if (refusal != ALLOWED) {
      return refusal;
    }
    Entry e = p.foremost(h.reach);
    return e == null ? NONE : tellAnd(e.v, e.number);
  }

  public int sum(int hand, int page) {
    Hand h = handAt(hand);
    Page p = pageAt(page);
    if (h == null || p == null) {
      return BAD;
    }
    int refusal = refusalToSee(h, p, TALLY);
    return refusal != ALLOWED ? refusal : tellAnd(p.total(h.reach), p.size(h.reach));
  }

  public int mean(int hand, int page) {
    Hand h = handAt(hand);
    Page p = pageAt(page);
    if (h == null || p == null) {
      return BAD;
    }
    int refusal = refusalToSee(h, p, TALLY);
    if (refusal != ALLOWED) {
      return refusal;
    }
    int many = p.size(h.reach);
    return many == 0 ? found(NOUGHT) : tellAnd(p.total(h.reach) / many, 1);
  }

  public int often(int hand, int page, int x) {
    Hand h = handAt(hand);
    Page p = pageAt(page);
    if (h == null || p == null || !isThing(x)) {
      return BAD;
    }
    int refusal = refusalToSee(h, p, BAG);
    return refusal != ALLOWED ? refusal : p.timesIn(h.reach, x);
  }

  public int inside(int hand, int page, int i) {
    Hand h = handAt(hand);
    Page p = pageAt(page);
    if (h == null || p == null) {
      return BAD;
    }
    int refusal = refusalToSee(h, p, BAG);
    if (refusal != ALLOWED) {
      return refusal;
    }
    int x = p.thingAt(h.reach, i);
    return x == NONE ? found(BEYOND) : x;
  }

  public int heads(int hand, int page) {
    Hand h = handAt(hand);
    Page p = pageAt(page);
    if (h == null || p == null) {
      return BAD;
    }
    int refusal = refusalToSee(h, p, MANY);
    return refusal != ALLOWED ? refusal : p.headCount(h.reach);
  }

  public int head(int hand, int page, int i) {
    Hand h = handAt(hand);
    Page p = pageAt(page);
    if (h == null || p == null) {
      return BAD;
    }
    int refusal = refusalToSee(h, p, MANY);
    if (refusal != ALLOWED) {
      return refusal;
    }
    Entry e = p.headAt(h.reach, i);
    return e == null ? found(BEYOND) : tellAnd(e.v, e.number);
  }

  public int rights(int hand, int page, int of) {
    Hand h = handAt(hand);
    Page p = pageAt(page);
    if (h == null || p == null || handAt(of) == null) {
      return BAD;
    }
    int refusal = refusalToSee(h, p, PURSE);
    return refusal != ALLOWED ? refusal : tellAnd(p.rightsOf(h.reach, of), 1);
  }

  public int up(int hand, int page) {
    Hand h = handAt(hand);
    Page p = pageAt(page);
    if (h == null || p == null) {
      return BAD;
    }
    int refusal = refusalToSee(h, p, FLAG);
    return refusal != ALLOWED ? refusal : oneIf(p.isUp(h.reach));
  }

  public int alike(int page, int hand, int other) {
    Page p = pageAt(page);
    Hand h = handAt(hand);
    Hand o = handAt(other);
    if (p == null || h == null || o == null) {
      return BAD;
    }
    p.tell(h.reach, telling);
    p.tell(o.reach, otherTelling);
    return oneIf(telling.same(otherTelling));
  }

  // ---- 5 leaves

  public int leaves(int hand, int n) {
    Hand h = handAt(hand);
    if (h == null || n > MOST_LEAVES) {
      return BAD;
    }
    if (n < 0) {
      return found(SIZE);
    }
    h.row.renew(n);
    return n;
  }

  public int save(int hand, int i) {
    Hand h = handAt(hand);
    if (h == null) {
      return BAD;
    }
    if (!h.row.spans(i, 1)) {
      return found(BEYOND);
    }
    h.row.store(i, latestTold);
    return 1;
  }

  public int tear(int hand, int i) {
    Hand h = handAt(hand);
    if (h == null) {
      return BAD;
    }
    int refusal = refusalToRead(h.row, i);
    if (refusal != ALLOWED) {
      return refusal;
    }
    h.row.drop(i);
    return 1;
  }

  public int leaf(int hand, int i) {
    Hand h = handAt(hand);
    if (h == null) {
      return BAD;
    }
    int refusal = refusalToRead(h.row, i);
    return refusal != ALLOWED ? refusal : tellAnd(h.row.numbers[i], 1);
  }

  public int copy(int hand, int i, int other, int j, int n) {
    Hand h = handAt(hand);
    Hand o = handAt(other);
    if (h == null || o == null) {
      return BAD;
    }
    if (!h.row.spans(i, n) || !o.row.spans(j, n)) {
      return found(BEYOND);
    }
    h.row.copyTo(i, o.row, j, n);
    return 1;
  }

  // ---- 6 what is told

  public long asked() {
    return latestTold;
  }

  public int count(int what) {
    switch (what) {
      case 0:
        return handCount;
      case 1:
        return pageCount;
      case 2:
        return entries.size();
      default:
        return BAD;
    }
  }

  public int finding() {
    return latestFinding;
  }

  public int findings(int f) {
    return f < NOTHING || f > SIZE ? BAD : timesFound[f];
  }

  public long digest(int hand) {
    Hand h = handAt(hand);
    if (h == null) {
      return 0;
    }
    long d = 17;
    for (int what = 0; what <= 4; what++) {
      d = folded(d, h.report(what));
    }
    for (int i = 0; i < pageCount; i++) {
      Page p = pageAt(i);
      if (p != null) {
        d = folded(folded(d, p.kind), oneIf(!h.ignored[p.number]));
        p.tell(h.reach, telling);
        d = telling.foldedOnto(d);
      }
    }
    return h.row.foldedOnto(d);
  }

  // ---- what the calls share

  private Hand handAt(int n) {
    return n < 0 || n >= handCount ? null : hands[n];
  }

  private Page pageAt(int n) {
    return n < 0 || n >= pageCount ? null : pages[n];
  }

  private Entry entryAt(int n) {
    return n < 0 || n >= entries.size() ? null : entries.get(n);
  }

  private static boolean isKind(int kind) {
    return kind >= LAST && kind <= CALM;
  }

  private static boolean isThing(int x) {
    return x >= 0 && x < BAG_THINGS;
  }

  private static boolean isAmount(long v) {
    return v >= 0 && v <= MOST_RIGHTS;
  }

  private static int oneIf(boolean so) {
    return so ? 1 : 0;
  }

  private static long folded(long h, long v) {
    return 31 * h + v;
  }

  private int found(int f) {
    latestFinding = f;
    timesFound[f]++;
    return FINDING;
  }

  private int tellAnd(long told, int answer) {
    latestTold = told;
    return answer;
  }

  private int refusalToSee(Hand h, Page p, int kind) {
    if (h.ignored[p.number]) {
      return found(NOTHING);
    }
    return p.isUnder(kind) ? ALLOWED : found(UNLIKE);
  }

  private int refusalToChange(Hand h, Page p, int kind) {
    if (entries.size() >= MOST_CHANGES) {
      return FULL;
    }
    return h.hasAllOwn() ? refusalToSee(h, p, kind) : STATE;
  }

  private int refusalToRead(LeafRow row, int i) {
    if (!row.spans(i, 1)) {
      return found(BEYOND);
    }
    return row.isThere(i) ? ALLOWED : found(NOTHING);
  }

  private int makeOfRights(Hand h, Page p, int act, int x, long v) {
    int refusal = refusalToChange(h, p, PURSE);
    if (refusal != ALLOWED) {
      return refusal;
    }
    if (p.rightsOf(h.reach, h.number) < v) {
      return found(BEYOND);
    }
    return make(h, p, act, x, v);
  }

  private int make(Hand h, Page p, int act, int x, long v) {
    Entry e = new Entry(entries.size(), h, p, act, x, v);
    entries.add(e);
    p.append(e);
    h.own.add(e);
    h.include(e);
    return e.number;
  }

  private boolean allHave(Entry e) {
    for (int i = 0; i < handCount; i++) {
      Hand h = handAt(i);
      if (h != null && !h.reach.holds(e)) {
        return false;
      }
    }
    return true;
  }

  /** Of each maker only the first CHANGE that is lacking can have the least STAMP, as STAMPS of one maker rise. */
  private Entry leastLacking(Hand giver, Hand receiver) {
    Entry least = null;
    for (int i = 0; i < handCount; i++) {
      Hand maker = handAt(i);
      int order = receiver.reach.upTo[i] + 1;
      Entry e = maker == null || order > giver.reach.upTo[i] ? null : maker.ownAt(order);
      if (e != null && (least == null || e.isBelow(least))) {
        least = e;
      }
    }
    return least;
  }

  /**
   * A set of CHANGES, held as one number for each HAND: how many of the first that this HAND made are in it.
   * That is enough, since a HAND makes a CHANGE only while it has all of its own, so that each KNOWS all earlier
   * ones of its maker, and a HAND takes only what is READY: no set of what is had or KNOWN has a gap.
   */
  private static final class Reach {
    final int[] upTo = new int[MOST_HANDS];

    boolean holds(Entry e) {
      return e.order <= upTo[e.maker];
    }

    boolean covers(Reach other) {
      for (int i = 0; i < MOST_HANDS; i++) {
        if (other.upTo[i] > upTo[i]) {
          return false;
        }
      }
      return true;
    }

    void widen(Reach other) {
      for (int i = 0; i < MOST_HANDS; i++) {
        if (other.upTo[i] > upTo[i]) {
          upTo[i] = other.upTo[i];
        }
      }
    }

    void empty() {
      for (int i = 0; i < MOST_HANDS; i++) {
        upTo[i] = 0;
      }
    }

    int size() {
      int all = 0;
      for (int i = 0; i < MOST_HANDS; i++) {
        all += upTo[i];
      }
      return all;
    }
  }

  /** A CHANGE. */
  private static final class Entry {
    final int number;
    final int maker;
    final int page;
    final int act;
    /** The thing that is PUT or TAKEN, or the HAND that is given to. */
    final int x;
    final long v;
    final int stampCount;
    /** Which one of its maker's it is, from 1 on. */
    final int order;
    final Reach known = new Reach();
    /** The one made before it on the same shelf of its PAGE. */
    final Entry earlier;

    Entry(int number, Hand maker, Page page, int act, int x, long v) {
      this.number = number;
      this.maker = maker.number;
      this.page = page.number;
      this.act = act;
      this.x = x;
      this.v = v;
      stampCount = maker.greatestCount + 1;
      order = maker.own.size() + 1;
      known.widen(maker.reach);
      earlier = page.latest[page.shelfOf(x)];
    }

    boolean isBelow(Entry other) {
      return stampCount < other.stampCount || stampCount == other.stampCount && maker < other.maker;
    }

    long rightsFor(int hand) {
      long got = act == GIVEN && x == hand ? v : 0;
      if (maker == hand) {
        got += act == GOT ? v : -v;
      }
      return got;
    }

    long addedToSum() {
      if (act == GIVEN) {
        return 0;
      }
      return act == SPENT ? -v : v;
    }
  }

  /** A HAND: what it has, what waits there, what it made. */
  private static final class Hand {
    final int number;
    final Reach reach = new Reach();
    final ArrayList<Entry> own = new ArrayList<>();
    /** By STAMPS, the least first. */
    final ArrayList<Entry> waiting = new ArrayList<>();
    final boolean[] ignored = new boolean[MOST_PAGES];
    final LeafRow row = new LeafRow();
    int greatestCount;

    Hand(int number) {
      this.number = number;
    }

    boolean hasAllOwn() {
      return reach.upTo[number] == own.size();
    }

    Entry ownAt(int order) {
      return order < 1 || order > own.size() ? null : own.get(order - 1);
    }

    void include(Entry e) {
      reach.upTo[e.maker] = e.order;
      greatestCount = Math.max(greatestCount, e.stampCount);
    }

    boolean awaits(Entry e) {
      for (int i = 0; i < waiting.size(); i++) {
        if (waiting.get(i).number == e.number) {
          return true;
        }
      }
      return false;
    }

    int receive(Entry e) {
      if (!awaits(e)) {
        queue(e);
      }
      return includeReady();
    }

    void queue(Entry e) {
      int place = 0;
      while (place < waiting.size() && waiting.get(place).isBelow(e)) {
        place++;
      }
      waiting.add(place, e);
    }

    /** Once through is enough: what a CHANGE makes READY KNOWS it, has a greater STAMP, and so stands behind it. */
    int includeReady() {
      int all = waiting.size();
      int stay = 0;
      for (int seen = 0; seen < all && stay < waiting.size(); seen++) {
        Entry e = waiting.get(stay);
        if (reach.covers(e.known)) {
          include(e);
          waiting.remove(stay);
        } else {
          stay++;
        }
      }
      return all - stay;
    }

    int forget() {
      int had = reach.size();
      reach.empty();
      waiting.clear();
      greatestCount = 0;
      for (int i = 0; i < MOST_PAGES; i++) {
        ignored[i] = false;
      }
      return had;
    }

    int report(int what) {
      switch (what) {
        case 0:
          return reach.size();
        case 1:
          return waiting.size();
        case 2:
          return greatestCount;
        case 3:
          return reach.upTo[number];
        default:
          return own.size();
      }
    }
  }

  /** A PAGE with all CHANGES ever made on it; the COPY of a HAND is what its reach makes of them. */
  private static final class Page {
    final int number;
    final int kind;
    /** A TAKE touches only PUTS of the same thing, so in a BAG each thing has a shelf of its own. */
    final Entry[] latest;
    private final Reach known = new Reach();

    Page(int number, int kind) {
      this.number = number;
      this.kind = kind;
      latest = new Entry[kind == BAG ? BAG_THINGS : 1];
    }

    boolean isUnder(int other) {
      return kind == other || ABOVE[kind] == other;
    }

    int shelfOf(int x) {
      return kind == BAG ? x : 0;
    }

    void append(Entry e) {
      latest[shelfOf(e.x)] = e;
    }

    /** The CHANGE that tells in a LAST, a FIRST or a MANY. */
    Entry foremost(Reach has) {
      Entry best = null;
      for (Entry e = latest[0]; e != null; e = e.earlier) {
        if (has.holds(e) && (best == null || best.isBelow(e) != (kind == FIRST))) {
          best = e;
        }
      }
      return best;
    }

    int size(Reach has) {
      int n = 0;
      for (Entry e = latest[0]; e != null; e = e.earlier) {
        if (has.holds(e)) {
          n++;
        }
      }
      return n;
    }

    int sizeOf(Reach has, int act) {
      int n = 0;
      for (Entry e = latest[0]; e != null; e = e.earlier) {
        if (e.act == act && has.holds(e)) {
          n++;
        }
      }
      return n;
    }

    long total(Reach has) {
      long all = 0;
      for (Entry e = latest[0]; e != null; e = e.earlier) {
        if (has.holds(e)) {
          all += e.addedToSum();
        }
      }
      return all;
    }

    long rightsOf(Reach has, int hand) {
      long all = 0;
      for (Entry e = latest[0]; e != null; e = e.earlier) {
        if (has.holds(e)) {
          all += e.rightsFor(hand);
        }
      }
      return all;
    }

    /** Gathers all that the CHANGES of one act on a shelf KNOW. */
    private void gatherKnown(Reach has, int shelf, int byAct) {
      known.empty();
      for (Entry e = latest[shelf]; e != null; e = e.earlier) {
        if (e.act == byAct && has.holds(e)) {
          known.widen(e.known);
        }
      }
    }

    /** How many CHANGES of one act on a shelf are KNOWN by none of another act there. */
    private int unknownTo(Reach has, int shelf, int act, int byAct) {
      gatherKnown(has, shelf, byAct);
      int n = 0;
      for (Entry e = latest[shelf]; e != null; e = e.earlier) {
        if (e.act == act && has.holds(e) && !known.holds(e)) {
          n++;
        }
      }
      return n;
    }

    int timesIn(Reach has, int x) {
      return unknownTo(has, shelfOf(x), PUT, TAKEN);
    }

    /** The i-th of the things that are in a BAG, each told once however often it is in it; NONE: not so many. */
    int thingAt(Reach has, int i) {
      int before = 0;
      for (int x = 0; x < BAG_THINGS; x++) {
        if (timesIn(has, x) > 0) {
          if (before == i) {
            return x;
          }
          before++;
        }
      }
      return NONE;
    }

    int headCount(Reach has) {
      return unknownTo(has, 0, WRITTEN, WRITTEN);
    }

    Entry headAt(Reach has, int i) {
      if (i < 0 || i >= headCount(has)) {
        return null;
      }
      Entry h = null;
      for (int n = 0; n <= i; n++) {
        h = headAbove(has, h);
      }
      return h;
    }

    /** The HEAD with the least STAMP above that of another one (of all if there is no other one). */
    private Entry headAbove(Reach has, Entry floor) {
      gatherKnown(has, 0, WRITTEN);
      Entry least = null;
      for (Entry e = latest[0]; e != null; e = e.earlier) {
        boolean isHead = has.holds(e) && !known.holds(e);
        if (isHead && (floor == null || floor.isBelow(e)) && (least == null || e.isBelow(least))) {
          least = e;
        }
      }
      return least;
    }

    boolean isUp(Reach has) {
      if (kind == CALM) {
        return sizeOf(has, UP) > 0 && unknownTo(has, 0, DOWN, UP) == 0;
      }
      return unknownTo(has, 0, UP, DOWN) > 0;
    }

    /** What digest() tells of a COPY behind its KIND and whether it is kept. */
    void tell(Reach has, Telling t) {
      t.size = 0;
      switch (ABOVE[kind]) {
        case LAST:
          tellLast(has, t);
          break;
        case TALLY:
          tellTally(has, t);
          break;
        case BAG:
          for (int x = 0; x < BAG_THINGS; x++) {
            t.say(timesIn(has, x));
          }
          break;
        default:
          t.say(oneIf(isUp(has)));
          t.say(sizeOf(has, UP));
          t.say(sizeOf(has, DOWN));
          break;
      }
    }

    private void tellLast(Reach has, Telling t) {
      Entry e = foremost(has);
      t.say(e == null ? NONE : e.number);
      t.say(e == null ? 0 : e.v);
      if (kind != MANY) {
        return;
      }
      t.say(headCount(has));
      Entry h = headAbove(has, null);
      for (int n = 0; n < MOST_HANDS && h != null; n++) {
        t.say(h.number);
        h = headAbove(has, h);
      }
    }

    private void tellTally(Reach has, Telling t) {
      t.say(total(has));
      t.say(size(has));
      if (kind == PURSE) {
        for (int hand = 0; hand < MOST_HANDS; hand++) {
          t.say(rightsOf(has, hand));
        }
      }
    }
  }

  /** The numbers that a COPY tells; a BAG tells the most, since a MANY has at most one HEAD of each maker. */
  private static final class Telling {
    private final long[] numbers = new long[BAG_THINGS];
    int size;

    void say(long v) {
      if (size < numbers.length) {
        numbers[size] = v;
        size++;
      }
    }

    boolean same(Telling other) {
      if (size != other.size) {
        return false;
      }
      for (int i = 0; i < size; i++) {
        if (numbers[i] != other.numbers[i]) {
          return false;
        }
      }
      return true;
    }

    long foldedOnto(long h) {
      long d = h;
      for (int i = 0; i < size; i++) {
        d = folded(d, numbers[i]);
      }
      return d;
    }
  }

  /** The LEAVES of a HAND. */
  private static final class LeafRow {
    final long[] numbers = new long[MOST_LEAVES];
    /** As digest() tells of a LEAF: THERE or MISSING. */
    private final int[] marks = new int[MOST_LEAVES];
    private int size;

    void renew(int n) {
      size = n;
      for (int i = 0; i < MOST_LEAVES; i++) {
        marks[i] = MISSING;
      }
    }

    /** Whether n places from one on are all there, asked so that no sum can wrap. */
    boolean spans(int from, int n) {
      return from >= 0 && n >= 0 && n <= size && from <= size - n;
    }

    boolean isThere(int i) {
      return marks[i] == THERE;
    }

    void store(int i, long number) {
      numbers[i] = number;
      marks[i] = THERE;
    }

    void drop(int i) {
      marks[i] = MISSING;
    }

    void copyTo(int from, LeafRow other, int to, int n) {
      System.arraycopy(numbers, from, other.numbers, to, n);
      System.arraycopy(marks, from, other.marks, to, n);
    }

    long foldedOnto(long h) {
      long d = h;
      for (int i = 0; i < size; i++) {
        d = folded(d, marks[i]);
        if (isThere(i)) {
          d = folded(d, numbers[i]);
        }
      }
      return d;
    }
  }
}
