/** Promises 6 to 14, and what the terms say of CHANGES and STAMPS: each sentence that names an edge. */
public final class EdgesOfChangesTest {
  private static final String[] KINDS = {"LAST", "FIRST", "TALLY", "BAG", "MANY", "PURSE", "FLAG", "CALM"};
  private static final String ALL_KINDS = String.join(" ", KINDS);

  private final Dues dues = new Dues("EdgesOfChangesTest");
  private final Rows rows = new Rows(dues);

  public static void main(String[] args) {
    EdgesOfChangesTest t = new EdgesOfChangesTest();
    t.kindsThatCallsFit();
    t.numbersThatAreNone();
    t.mostChanges();
    t.writeCall();
    t.addCall();
    t.putCall();
    t.takeCall();
    t.giveCall();
    t.spendCall();
    t.raiseCall();
    t.stamps();
    t.changeCall();
    t.knowsCall();
    t.dues.end();
  }

  /** Each call on a PAGE of each KIND: made where it fits, else UNLIKE. */
  private void kindsThatCallsFit() {
    onEachKind(6, "write(0, %d, 1)", "LAST FIRST MANY");
    onEachKind(7, "add(0, %d, 1)", "TALLY PURSE");
    onEachKind(8, "put(0, %d, 1)", "BAG");
    onEachKind(10, "give(0, %d, 1, 0)", "PURSE");
    onEachKind(11, "spend(0, %d, 0)", "PURSE");
    onEachKind(12, "raise(0, %d, true)", "FLAG CALM");
    onEachKind(12, "raise(0, %d, false)", "FLAG CALM");
    StringBuilder takes = new StringBuilder("book 1: " + ALL_KINDS + "\nput(0, 3, 1) = 0\n");
    for (int k = 0; k < KINDS.length; k++) {
      takes.append("take(0, ").append(k).append(", 1) = ").append(k == 3 ? "1" : "UNLIKE").append('\n');
    }
    rows.of(9, "UNLIKE: on a BAG alone", takes.toString());
  }

  private void onEachKind(int promise, String call, String fit) {
    StringBuilder all = new StringBuilder("book 2: " + ALL_KINDS + "\n");
    int made = 0;
    for (int k = 0; k < KINDS.length; k++) {
      boolean fits = (" " + fit + " ").contains(" " + KINDS[k] + " ");
      all.append(String.format(call, k)).append(" = ").append(fits ? Integer.toString(made++) : "UNLIKE").append('\n');
    }
    rows.of(promise, "UNLIKE: on " + fit + " alone", all.toString());
  }

  /** Each call with the last HAND and PAGE that there are and the first ones that there are not, on both sides. */
  private void numbersThatAreNone() {
    noneSuch(6, "LAST", "write(%s, %s, 1)");
    noneSuch(7, "TALLY", "add(%s, %s, 1)");
    noneSuch(7, "PURSE", "add(%s, %s, 1)");
    noneSuch(8, "BAG", "put(%s, %s, 1)");
    noneSuch(10, "PURSE", "give(%s, %s, 1, 0)");
    noneSuch(11, "PURSE", "spend(%s, %s, 0)");
    noneSuch(12, "FLAG", "raise(%s, %s, true)");
    noneSuch(12, "CALM", "raise(%s, %s, false)");
    rows.of(9, "BAD: a HAND, a PAGE that is none", """
        book 6: BAG BAG BAG BAG BAG BAG BAG BAG BAG BAG
        put(0, 0, 1) = 0
        put(5, 9, 1) = 1
        take(MIN, 0, 1) = BAD
        take(-1, 0, 1) = BAD
        take(6, 0, 1) = BAD
        take(MAX, 0, 1) = BAD
        take(0, MIN, 1) = BAD
        take(0, -1, 1) = BAD
        take(0, 10, 1) = BAD
        take(0, MAX, 1) = BAD
        take(0, 0, 1) = 2
        take(5, 9, 1) = 3
        """);
  }

  private void noneSuch(int promise, String kind, String call) {
    StringBuilder all = new StringBuilder("book 6: " + (kind + " ").repeat(10) + "\n");
    for (String hand : new String[] {"MIN", "-1", "6", "MAX"}) all.append(String.format(call, hand, "0")).append(" = BAD\n");
    for (String page : new String[] {"MIN", "-1", "10", "MAX"}) all.append(String.format(call, "0", page)).append(" = BAD\n");
    all.append(String.format(call, "0", "0")).append(" = 0\n");
    all.append(String.format(call, "5", "9")).append(" = 1\n");
    rows.of(promise, "BAD: a HAND, a PAGE that is none", all.toString());
  }

  /** The 400th CHANGE is made by each call, the next one is not. */
  private void mostChanges() {
    lastOne(6, "write(0, 0, 1)");
    lastOne(7, "add(0, 1, 1)");
    lastOne(7, "add(0, 3, 1)");
    lastOne(8, "put(0, 2, 1)");
    lastOne(9, "take(0, 2, 9)");
    lastOne(10, "give(0, 3, 1, 1)");
    lastOne(11, "spend(0, 3, 1)");
    lastOne(12, "raise(0, 4, true)");
    lastOne(12, "raise(0, 4, false)");
  }

  private void lastOne(int promise, String call) {
    rows.of(promise, "FULL: CHANGES 0, 1, .. (400 at most)", """
        book 2: LAST TALLY BAG PURSE FLAG
        put(0, 2, 9) = 0
        add(0, 3, 50) = 1
        397 x write(1, 0, 3) = 2 ..
        CALL = 399
        CALL = FULL
        count(2) = 400
        told(0, 4) = 3
        """.replace("CALL", call));
  }

  private void writeCall() {
    rows.of(6, "v is any long", """
        book 1: LAST FIRST MANY
        write(0, 0, MIN) = 0
        value(0, 0) = 0
        asked() = MIN
        write(0, 0, MAX) = 1
        value(0, 0) = 1
        asked() = MAX
        write(0, 1, MIN) = 2
        write(0, 1, 0) = 3
        value(0, 1) = 2
        asked() = MIN
        write(0, 2, MAX) = 4
        head(0, 2, 0) = 4
        asked() = MAX
        """);
    rows.of(6, "UNLIKE behind NOTHING", """
        book 1: TALLY
        write(0, 0, 1) = UNLIKE
        keep(0, 0, false) = 1
        write(0, 0, 1) = NOTHING
        """);
  }

  private void addCall() {
    rows.of(7, "v is any long on a TALLY; the sum wraps", """
        book 1: TALLY
        add(0, 0, MAX) = 0
        add(0, 0, MAX) = 1
        sum(0, 0) = 2
        asked() = -2
        add(0, 0, MIN) = 2
        sum(0, 0) = 3
        asked() = 9223372036854775806
        add(0, 0, -1) = 3
        add(0, 0, 1000000001) = 4
        """);
    rows.of(7, "on a PURSE v 0 .. 1000000000, else BEYOND", """
        book 1: PURSE
        add(0, 0, MIN) = BEYOND
        add(0, 0, -1) = BEYOND
        add(0, 0, 0) = 0
        add(0, 0, 1000000000) = 1
        add(0, 0, 1000000001) = BEYOND
        add(0, 0, 4294967296) = BEYOND
        add(0, 0, MAX) = BEYOND
        sum(0, 0) = 2
        asked() = 1000000000
        """);
    rows.of(7, "UNLIKE behind NOTHING, BEYOND behind that", """
        book 1: PURSE LAST
        add(0, 1, -1) = UNLIKE
        keep(0, 1, false) = 1
        add(0, 1, -1) = NOTHING
        keep(0, 0, false) = 1
        add(0, 0, -1) = NOTHING
        """);
  }

  private void putCall() {
    rows.of(8, "x 0 .. 63, else BAD", """
        book 1: BAG
        put(0, 0, MIN) = BAD
        put(0, 0, -1) = BAD
        put(0, 0, 0) = 0
        put(0, 0, 63) = 1
        put(0, 0, 64) = BAD
        put(0, 0, MAX) = BAD
        often(0, 0, 0) = 1
        often(0, 0, 63) = 1
        count(2) = 2
        """);
    rows.of(8, "a PUT of what is in it puts it once more", """
        book 1: BAG
        3 x put(0, 0, 0) = 0 ..
        often(0, 0, 0) = 3
        often(0, 0, 1) = 0
        """);
  }

  private void takeCall() {
    rows.of(9, "x 0 .. 63, else BAD", """
        book 1: BAG
        put(0, 0, 0) = 0
        put(0, 0, 63) = 1
        take(0, 0, MIN) = BAD
        take(0, 0, -1) = BAD
        take(0, 0, 64) = BAD
        take(0, 0, MAX) = BAD
        take(0, 0, 0) = 2
        take(0, 0, 63) = 3
        take(0, 0, 0) = BEYOND
        take(0, 0, 63) = BEYOND
        """);
    rows.of(9, "BEYOND: x is not in it", """
        book 2: BAG BAG
        take(0, 0, 5) = BEYOND
        put(0, 0, 5) = 0
        take(0, 0, 4) = BEYOND
        take(0, 0, 6) = BEYOND
        take(0, 1, 5) = BEYOND
        take(1, 0, 5) = BEYOND
        take(0, 0, 5) = 1
        take(0, 0, 5) = BEYOND
        put(0, 0, 5) = 2
        take(0, 0, 5) = 3
        """);
    rows.of(9, "BEYOND: what WAITS is not in it", """
        book 2: BAG
        put(0, 0, 1) = 0
        put(0, 0, 2) = 1
        come(1, 1) = 10
        take(1, 0, 2) = BEYOND
        come(1, 0) = 12
        take(1, 0, 2) = 2
        """);
    rows.of(9, "a TAKE takes away all PUTS of x that it KNOWS, and no other", """
        book 2: BAG
        put(0, 0, 5) = 0
        put(0, 0, 5) = 1
        put(0, 0, 4) = 2
        come(1, 0) = 11
        take(1, 0, 5) = 3
        often(1, 0, 5) = 0
        come(1, 1) = 11
        often(1, 0, 5) = 1
        come(0, 3) = 11
        often(0, 0, 5) = 1
        often(0, 0, 4) = 1
        take(0, 0, 5) = 4
        often(0, 0, 5) = 0
        often(0, 0, 4) = 1
        """);
    rows.of(9, "two TAKES of the same PUT take it once", """
        book 2: BAG
        put(0, 0, 7) = 0
        put(0, 0, 7) = 1
        meet(0, 1, 1) = 1
        take(0, 0, 7) = 2
        take(1, 0, 7) = 3
        put(1, 0, 7) = 4
        meet(0, 1, 9) = 2
        meet(1, 0, 9) = 2
        often(0, 0, 7) = 1
        often(1, 0, 7) = 1
        """);
    rows.of(9, "BEYOND behind UNLIKE behind NOTHING", """
        book 1: LAST BAG
        take(0, 0, 1) = UNLIKE
        keep(0, 0, false) = 1
        take(0, 0, 1) = NOTHING
        keep(0, 1, false) = 1
        take(0, 1, 1) = NOTHING
        """);
  }

  private void giveCall() {
    rows.of(10, "v 0 .. 1000000000, else BAD", """
        book 2: PURSE
        2 x add(0, 0, 1000000000) = 0 ..
        give(0, 0, 1, MIN) = BAD
        give(0, 0, 1, -1) = BAD
        give(0, 0, 1, 1000000001) = BAD
        give(0, 0, 1, 4294967296) = BAD
        give(0, 0, 1, MAX) = BAD
        give(0, 0, 1, 0) = 2
        give(0, 0, 1, 1000000000) = 3
        rights(0, 0, 0) = 1
        asked() = 1000000000
        rights(0, 0, 1) = 1
        asked() = 1000000000
        """);
    rows.of(10, "BAD: the other HAND is none", """
        book 6: PURSE
        give(0, 0, MIN, 0) = BAD
        give(0, 0, -1, 0) = BAD
        give(0, 0, 6, 0) = BAD
        give(0, 0, MAX, 0) = BAD
        give(0, 0, 5, 0) = 0
        give(5, 0, 0, 0) = 1
        """);
    rows.of(10, "BAD: twice the same HAND", """
        book 2: PURSE LAST
        add(0, 0, 5) = 0
        give(0, 0, 0, 1) = BAD
        give(0, 0, 0, 0) = BAD
        give(1, 0, 1, 0) = BAD
        give(0, 1, 0, 0) = BAD
        give(0, 0, 1, 1) = 1
        """);
    rows.of(10, "BAD is told of any PAGE, ahead of NOTHING and UNLIKE", """
        book 2: PURSE LAST
        give(0, 1, 1, -1) = BAD
        give(0, 1, 1, 1000000001) = BAD
        give(0, 1, 2, 0) = BAD
        give(0, 1, 1, 0) = UNLIKE
        keep(0, 0, false) = 1
        give(0, 0, 1, -1) = BAD
        give(0, 0, 0, 0) = BAD
        give(0, 0, 1, 1) = NOTHING
        """);
    rows.of(10, "BEYOND: the HAND has not so many RIGHTS in its COPY", """
        book 3: PURSE PURSE
        give(0, 0, 1, 0) = 0
        give(0, 0, 1, 1) = BEYOND
        add(0, 0, 7) = 1
        give(0, 0, 1, 8) = BEYOND
        give(0, 1, 1, 7) = BEYOND
        give(0, 0, 1, 7) = 2
        give(0, 0, 1, 1) = BEYOND
        give(1, 0, 2, 7) = BEYOND
        come(1, 0) = 11
        come(1, 2) = 10
        give(1, 0, 2, 7) = BEYOND
        come(1, 1) = 12
        give(1, 0, 2, 8) = BEYOND
        give(1, 0, 2, 7) = 3
        rights(1, 0, 0) = 1
        asked() = 0
        rights(1, 0, 1) = 1
        asked() = 0
        rights(1, 0, 2) = 1
        asked() = 7
        sum(1, 0) = 4
        asked() = 7
        """);
    rows.of(10, "STATE behind FULL, ahead of NOTHING, UNLIKE, BEYOND", """
        book 2: PURSE LAST
        add(0, 0, 1) = 0
        lose(0) = 1
        give(0, 0, 1, 1) = STATE
        give(0, 1, 1, 1) = STATE
        keep(0, 0, false) = 1
        give(0, 0, 1, 1) = STATE
        give(0, 0, 0, 1) = BAD
        399 x write(1, 1, 1) = 1 ..
        give(0, 0, 1, 1) = FULL
        give(0, 0, 0, 1) = BAD
        """);
  }

  private void spendCall() {
    rows.of(11, "v 0 .. 1000000000, else BAD", """
        book 1: PURSE
        2 x add(0, 0, 1000000000) = 0 ..
        spend(0, 0, MIN) = BAD
        spend(0, 0, -1) = BAD
        spend(0, 0, 1000000001) = BAD
        spend(0, 0, 4294967296) = BAD
        spend(0, 0, MAX) = BAD
        spend(0, 0, 0) = 2
        spend(0, 0, 1000000000) = 3
        rights(0, 0, 0) = 1
        asked() = 1000000000
        """);
    rows.of(11, "BAD is told of any PAGE, ahead of NOTHING and UNLIKE", """
        book 1: PURSE LAST
        spend(0, 1, -1) = BAD
        spend(0, 1, 1000000001) = BAD
        spend(0, 1, 0) = UNLIKE
        keep(0, 0, false) = 1
        spend(0, 0, -1) = BAD
        spend(0, 0, 1) = NOTHING
        """);
    rows.of(11, "BEYOND, as give()", """
        book 2: PURSE
        spend(0, 0, 0) = 0
        spend(0, 0, 1) = BEYOND
        spend(0, 0, 1000000000) = BEYOND
        add(0, 0, 7) = 1
        spend(0, 0, 8) = BEYOND
        spend(1, 0, 1) = BEYOND
        spend(0, 0, 7) = 2
        spend(0, 0, 1) = BEYOND
        sum(0, 0) = 3
        asked() = 0
        """);
    rows.of(11, "STATE: till it has all of its own again", """
        book 2: PURSE
        2 x add(0, 0, 5) = 0 ..
        meet(0, 1, 9) = 2
        lose(0) = 2
        spend(0, 0, 0) = STATE
        come(0, 0) = 11
        spend(0, 0, 5) = STATE
        come(0, 1) = 11
        spend(0, 0, 10) = 2
        """);
  }

  private void raiseCall() {
    rows.of(12, "an UP, else a DOWN", """
        book 1: FLAG CALM
        raise(0, 0, true) = 0
        up(0, 0) = 1
        raise(0, 0, false) = 1
        up(0, 0) = 0
        raise(0, 1, false) = 2
        up(0, 1) = 0
        raise(0, 1, true) = 3
        up(0, 1) = 1
        """);
    rows.of(12, "an UP of one that is up, a DOWN of one that is down are CHANGES too", """
        book 1: FLAG
        2 x raise(0, 0, false) = 0 ..
        2 x raise(0, 0, true) = 2 ..
        digest(0) = fold 4 0 4 4 4 6 1 1 2 2
        """);
    rows.of(12, "UNLIKE behind NOTHING", """
        book 1: BAG
        raise(0, 0, false) = UNLIKE
        keep(0, 0, false) = 1
        raise(0, 0, false) = NOTHING
        """);
  }

  private void stamps() {
    rows.of(0, "the COUNT is 1 with none", """
        book 2: LAST
        write(0, 0, 1) = 0
        write(1, 0, 1) = 1
        change(0, 2) = 1
        change(1, 2) = 1
        """);
    rows.of(0, "the COUNT is one more than the greatest that the HAND has, of any PAGE and maker", """
        book 2: LAST TALLY
        3 x write(0, 0, 1) = 0 ..
        meet(0, 1, 9) = 3
        add(1, 1, 1) = 3
        change(3, 2) = 4
        write(0, 0, 1) = 4
        change(4, 2) = 4
        """);
    rows.of(0, "the COUNT is above those that the HAND has, not those that WAIT", """
        book 2: LAST
        3 x write(0, 0, 1) = 0 ..
        come(1, 0) = 11
        come(1, 2) = 10
        write(1, 0, 1) = 3
        change(3, 2) = 2
        change(3, 3) = 1
        """);
    rows.of(0, "the COUNT is 1 again with all lost, for a HAND that made none", """
        book 2: LAST
        3 x write(0, 0, 1) = 0 ..
        meet(0, 1, 9) = 3
        lose(1) = 3
        write(1, 0, 8) = 3
        change(3, 2) = 1
        change(3, 3) = 0
        meet(1, 0, 9) = 1
        value(0, 0) = 2
        """);
    rows.of(0, "what is refused takes no number and no COUNT", """
        book 1: LAST PURSE
        write(0, 0, 1) = 0
        add(0, 0, 1) = UNLIKE
        spend(0, 1, 1) = BEYOND
        write(0, 0, 1) = 1
        change(1, 2) = 2
        """);
    rows.of(0, "the greatest COUNT of all is 400", """
        book 1: LAST
        400 x write(0, 0, 1) = 0 ..
        change(399, 2) = 400
        change(399, 3) = 399
        told(0, 2) = 400
        """);
  }

  private void changeCall() {
    rows.of(13, "BAD: a CHANGE that is none", """
        book 1: LAST
        change(0, 0) = BAD
        write(0, 0, 1) = 0
        change(0, 0) = 0 !
        change(MIN, 0) = BAD
        change(-1, 0) = BAD
        change(1, 0) = BAD
        change(MAX, 0) = BAD
        """);
    rows.of(13, "BAD: what is not 0 to 4", """
        book 2: LAST TALLY
        write(0, 0, 9) = 0
        add(0, 1, 9) = 1
        change(1, MIN) = BAD
        change(1, -1) = BAD
        change(1, 0) = 0 !
        change(1, 1) = 1 !
        change(1, 2) = 2 !
        change(1, 3) = 1 !
        change(1, 4) = 0 !
        change(1, 5) = BAD
        change(1, MAX) = BAD
        """);
    rows.of(13, "the last CHANGE of all, and the first that is not", """
        book 6: LAST LAST LAST LAST LAST LAST LAST LAST LAST LAST
        399 x write(0, 0, 1) = 0 ..
        write(5, 9, 1) = 399
        change(399, 0) = 5
        change(399, 1) = 9
        change(399, 2) = 1
        change(399, 3) = 0
        change(400, 0) = BAD
        """);
    rows.of(13, "4 whether all HANDS have it: one is enough to lack it, what WAITS is not had", """
        book 3: LAST
        2 x write(0, 0, 1) = 0 ..
        change(0, 4) = 0
        meet(0, 1, 9) = 2
        change(0, 4) = 0
        come(2, 1) = 10
        change(1, 4) = 0
        come(2, 0) = 12
        change(0, 4) = 1
        change(1, 4) = 1
        lose(1) = 2
        change(0, 4) = 0
        """);
    rows.of(13, "4 with one HAND alone: it has it at once", """
        book 1: LAST
        write(0, 0, 1) = 0
        change(0, 4) = 1
        lose(0) = 1
        change(0, 4) = 0
        change(0, 0) = 0
        """);
    rows.of(13, "3 how many it KNOWS stays as it was made", """
        book 2: LAST
        write(0, 0, 1) = 0
        write(1, 0, 1) = 1
        meet(0, 1, 9) = 1
        change(1, 3) = 0
        write(1, 0, 1) = 2
        change(2, 3) = 2
        lose(1) = 3
        change(2, 3) = 2
        """);
  }

  private void knowsCall() {
    rows.of(14, "BAD: a CHANGE that is none, on both sides", """
        book 1: LAST
        knows(0, 0) = BAD
        2 x write(0, 0, 1) = 0 ..
        knows(MIN, 0) = BAD
        knows(-1, 0) = BAD
        knows(2, 0) = BAD
        knows(MAX, 0) = BAD
        knows(0, MIN) = BAD
        knows(0, -1) = BAD
        knows(0, 2) = BAD
        knows(0, MAX) = BAD
        knows(1, 0) = 1 !
        knows(0, 1) = 0 !
        """);
    rows.of(14, "it KNOWS what its HAND had as it was made: not itself", """
        book 1: LAST
        write(0, 0, 1) = 0
        knows(0, 0) = 0
        """);
    rows.of(14, "it KNOWS what its HAND had, of any PAGE; not what came later or WAITED", """
        book 3: LAST TALLY
        add(0, 1, 1) = 0
        add(0, 1, 1) = 1
        write(2, 0, 1) = 2
        come(1, 0) = 11
        come(1, 2) = 11
        write(1, 0, 1) = 3
        come(1, 1) = 11
        knows(3, 0) = 1
        knows(3, 2) = 1
        knows(3, 1) = 0
        write(1, 0, 1) = 4
        knows(4, 1) = 1
        knows(4, 3) = 1
        knows(3, 4) = 0
        """);
    rows.of(14, "a CHANGE does not KNOW what WAITED for its HAND", """
        book 2: LAST
        2 x write(0, 0, 1) = 0 ..
        come(1, 1) = 10
        write(1, 0, 1) = 2
        knows(2, 1) = 0
        knows(2, 0) = 0
        """);
    rows.of(14, "a CHANGE KNOWS what a HAND did not KEEP, too", """
        book 2: LAST LAST
        keep(1, 0, false) = 1
        write(0, 0, 1) = 0
        come(1, 0) = 11
        write(1, 1, 1) = 1
        knows(1, 0) = 1
        """);
    rows.of(14, "the last one KNOWS the first", """
        book 1: LAST
        400 x write(0, 0, 1) = 0 ..
        knows(399, 0) = 1
        knows(0, 399) = 0
        knows(399, 400) = BAD
        knows(400, 399) = BAD
        """);
  }
}
