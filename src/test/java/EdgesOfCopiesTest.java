/** Promises 21 to 30, and what the terms say of COPIES of each KIND: each sentence that names an edge. */
public final class EdgesOfCopiesTest {
  private static final String[] KINDS = {"LAST", "FIRST", "TALLY", "BAG", "MANY", "PURSE", "FLAG", "CALM"};
  private static final String ALL_KINDS = String.join(" ", KINDS);

  private final Dues dues = new Dues("EdgesOfCopiesTest");
  private final Rows rows = new Rows(dues);

  public static void main(String[] args) {
    EdgesOfCopiesTest t = new EdgesOfCopiesTest();
    t.kindsThatCallsFit();
    t.numbersThatAreNone();
    t.valueCall();
    t.sumCall();
    t.meanCall();
    t.oftenCall();
    t.insideCall();
    t.headsCall();
    t.headCall();
    t.rightsCall();
    t.upCall();
    t.calmCopies();
    t.alikeCall();
    t.dues.end();
  }

  /** Each call on a PAGE of each KIND without CHANGES: what it answers where it fits, else UNLIKE; NOTHING ahead. */
  private void kindsThatCallsFit() {
    onEachKind(21, "value(0, %d)", "LAST FIRST MANY", "NONE");
    onEachKind(22, "sum(0, %d)", "TALLY PURSE", "0");
    onEachKind(23, "mean(0, %d)", "TALLY PURSE", "NOUGHT");
    onEachKind(24, "often(0, %d, 0)", "BAG", "0");
    onEachKind(25, "inside(0, %d, 0)", "BAG", "BEYOND");
    onEachKind(26, "heads(0, %d)", "MANY", "0");
    onEachKind(27, "head(0, %d, 0)", "MANY", "BEYOND");
    onEachKind(28, "rights(0, %d, 0)", "PURSE", "1");
    onEachKind(29, "up(0, %d)", "FLAG CALM", "0");
  }

  private void onEachKind(int promise, String call, String fit, String answer) {
    StringBuilder all = new StringBuilder("book 1: " + ALL_KINDS + "\n");
    for (int k = 0; k < KINDS.length; k++) {
      boolean fits = (" " + fit + " ").contains(" " + KINDS[k] + " ");
      all.append(String.format(call, k)).append(" = ").append(fits ? answer : "UNLIKE").append('\n');
      all.append("keep(0, ").append(k).append(", false) = 1\n");
      all.append(String.format(call, k)).append(" = NOTHING\n");
    }
    rows.of(promise, "UNLIKE: of " + fit + " alone; NOTHING ahead of it", all.toString());
  }

  private void numbersThatAreNone() {
    noneSuch(21, "LAST", "value(%s, %s)", "NONE");
    noneSuch(22, "TALLY", "sum(%s, %s)", "0");
    noneSuch(23, "TALLY", "mean(%s, %s)", "NOUGHT");
    noneSuch(24, "BAG", "often(%s, %s, 0)", "0");
    noneSuch(25, "BAG", "inside(%s, %s, 0)", "BEYOND");
    noneSuch(26, "MANY", "heads(%s, %s)", "0");
    noneSuch(27, "MANY", "head(%s, %s, 0)", "BEYOND");
    noneSuch(28, "PURSE", "rights(%s, %s, 0)", "1");
    noneSuch(29, "FLAG", "up(%s, %s)", "0");
  }

  private void noneSuch(int promise, String kind, String call, String answer) {
    StringBuilder all = new StringBuilder("book 6: " + (kind + " ").repeat(10) + "\n");
    for (String hand : new String[] {"MIN", "-1", "6", "MAX"}) all.append(String.format(call, hand, "0")).append(" = BAD\n");
    for (String page : new String[] {"MIN", "-1", "10", "MAX"}) all.append(String.format(call, "0", page)).append(" = BAD\n");
    all.append(String.format(call, "0", "0")).append(" = ").append(answer).append('\n');
    all.append(String.format(call, "5", "9")).append(" = ").append(answer).append('\n');
    rows.of(promise, "BAD: a HAND, a PAGE that is none", all.toString());
  }

  private void valueCall() {
    rows.of(21, "NONE: none, and what asked() tells stays", """
        book 2: LAST FIRST MANY
        write(0, 0, 4) = 0
        value(0, 0) = 0
        value(1, 0) = NONE !
        value(0, 1) = NONE !
        value(0, 2) = NONE !
        asked() = 4
        """);
    rows.of(21, "LAST: the greatest STAMP: the greater COUNT, though its HAND is the lesser one and its number too", """
        book 2: LAST FIRST MANY
        6 x write(0, 0, 10) = 0 ..
        write(1, 0, 20) = 6
        meet(1, 0, 9) = 1
        meet(0, 1, 9) = 6
        value(0, 0) = 5
        asked() = 10
        value(1, 0) = 5
        """);
    rows.of(21, "LAST: of like COUNTS the greater HAND, in whichever order they come", """
        book 3: LAST
        write(2, 0, 22) = 0
        write(1, 0, 11) = 1
        come(0, 0) = 11
        value(0, 0) = 0
        come(0, 1) = 11
        value(0, 0) = 0
        asked() = 22
        come(1, 0) = 11
        value(1, 0) = 0
        """);
    rows.of(21, "FIRST: the least STAMP: of like COUNTS the lesser HAND, in whichever order they come", """
        book 3: FIRST
        write(2, 0, 22) = 0
        write(1, 0, 11) = 1
        write(1, 0, 12) = 2
        come(0, 0) = 11
        value(0, 0) = 0
        come(0, 1) = 11
        value(0, 0) = 1
        asked() = 11
        come(0, 2) = 11
        value(0, 0) = 1
        """);
    rows.of(21, "FIRST: the least COUNT, though its HAND is the greater one", """
        book 2: FIRST LAST
        write(0, 1, 1) = 0
        write(0, 0, 5) = 1
        write(1, 0, 6) = 2
        value(0, 0) = 1
        come(0, 2) = 11
        value(0, 0) = 2
        asked() = 6
        """);
    rows.of(21, "MANY: as LAST", """
        book 2: MANY
        write(1, 0, 5) = 0
        write(0, 0, 6) = 1
        meet(1, 0, 9) = 1
        value(0, 0) = 0
        asked() = 5
        write(0, 0, 7) = 2
        value(0, 0) = 2
        asked() = 7
        """);
    rows.of(21, "CHANGES of another PAGE tell nothing here", """
        book 1: LAST LAST
        write(0, 1, 5) = 0
        value(0, 0) = NONE
        """);
  }

  private void sumCall() {
    rows.of(22, "of none: 0, told too", """
        book 1: TALLY LAST PURSE
        write(0, 1, 9) = 0
        value(0, 1) = 0
        sum(0, 0) = 0
        asked() = 0
        value(0, 1) = 0
        sum(0, 2) = 0
        asked() = 0
        """);
    rows.of(22, "sums of longs wrap, up and down, whatever the order", """
        book 2: TALLY
        add(0, 0, MAX) = 0
        add(1, 0, 1) = 1
        meet(1, 0, 9) = 1
        meet(0, 1, 9) = 1
        sum(0, 0) = 2
        asked() = MIN
        sum(1, 0) = 2
        asked() = MIN
        add(0, 0, -1) = 2
        sum(0, 0) = 3
        asked() = MAX
        add(0, 0, MIN) = 3
        add(0, 0, MIN) = 4
        sum(0, 0) = 5
        asked() = MAX
        """);
    rows.of(22, "of a PURSE: the sum of all RIGHTS, many being all CHANGES", """
        book 2: PURSE
        add(0, 0, 1000000000) = 0
        add(1, 0, 3) = 1
        give(0, 0, 1, 400000000) = 2
        spend(0, 0, 100000000) = 3
        sum(0, 0) = 3
        asked() = 900000000
        meet(1, 0, 9) = 1
        sum(0, 0) = 4
        asked() = 900000003
        spend(0, 0, 0) = 4
        sum(0, 0) = 5
        asked() = 900000003
        """);
    rows.of(22, "of a PURSE with the most RIGHTS that there may be: no int would hold them", """
        book 1: PURSE
        400 x add(0, 0, 1000000000) = 0 ..
        sum(0, 0) = 400
        asked() = 400000000000
        rights(0, 0, 0) = 1
        asked() = 400000000000
        spend(0, 0, 1) = FULL
        """);
    rows.of(22, "adding 0 is a CHANGE, and counted", """
        book 1: TALLY
        2 x add(0, 0, 0) = 0 ..
        sum(0, 0) = 2
        asked() = 0
        """);
  }

  private void meanCall() {
    rows.of(23, "NOUGHT: shared among none; what asked() tells stays", """
        book 2: TALLY PURSE LAST
        write(0, 2, 9) = 0
        value(0, 2) = 0
        mean(0, 0) = NOUGHT
        mean(0, 1) = NOUGHT
        asked() = 9
        add(0, 0, 5) = 1
        mean(0, 0) = 1
        asked() = 5
        mean(1, 0) = NOUGHT
        """);
    rows.of(23, "cut, above 0 and below it", """
        book 1: TALLY TALLY
        add(0, 0, 7) = 0
        add(0, 0, 0) = 1
        mean(0, 0) = 1
        asked() = 3
        add(0, 1, -7) = 2
        add(0, 1, 0) = 3
        mean(0, 1) = 1
        asked() = -3
        add(0, 1, 6) = 4
        mean(0, 1) = 1
        asked() = 0
        """);
    rows.of(23, "of the sum that wrapped, and of the least long", """
        book 1: TALLY TALLY
        add(0, 0, MIN) = 0
        mean(0, 0) = 1
        asked() = MIN
        add(0, 0, 0) = 1
        mean(0, 0) = 1
        asked() = -4611686018427387904
        2 x add(0, 1, MAX) = 2 ..
        mean(0, 1) = 1
        asked() = -1
        """);
    rows.of(23, "of a PURSE: GIVES and SPENDS are many, too", """
        book 2: PURSE
        add(0, 0, 10) = 0
        give(0, 0, 1, 10) = 1
        spend(0, 0, 0) = 2
        mean(0, 0) = 1
        asked() = 3
        """);
    rows.of(23, "UNLIKE, NOTHING ahead of NOUGHT", """
        book 1: TALLY LAST
        mean(0, 1) = UNLIKE
        keep(0, 0, false) = 1
        mean(0, 0) = NOTHING
        """);
  }

  private void oftenCall() {
    rows.of(24, "BAD: also x, 0 .. 63", """
        book 1: BAG LAST
        put(0, 0, 0) = 0
        put(0, 0, 63) = 1
        often(0, 0, MIN) = BAD
        often(0, 0, -1) = BAD
        often(0, 0, 0) = 1 !
        often(0, 0, 1) = 0 !
        often(0, 0, 62) = 0 !
        often(0, 0, 63) = 1 !
        often(0, 0, 64) = BAD
        often(0, 0, MAX) = BAD
        """);
    rows.of(24, "BAD ahead of NOTHING and UNLIKE", """
        book 1: BAG LAST
        often(0, 1, 64) = BAD
        often(0, 1, -1) = BAD
        keep(0, 0, false) = 1
        often(0, 0, 64) = BAD
        often(0, 0, 63) = NOTHING
        """);
    rows.of(24, "x is in it as often as there are PUTS that no TAKE took away", """
        book 2: BAG
        398 x put(0, 0, 9) = 0 ..
        often(0, 0, 9) = 398
        take(0, 0, 9) = 398
        often(0, 0, 9) = 0
        put(0, 0, 9) = 399
        often(0, 0, 9) = 1
        often(1, 0, 9) = 0
        """);
    rows.of(24, "a TAKE that came takes away only what it KNOWS", """
        book 2: BAG
        put(0, 0, 9) = 0
        meet(0, 1, 9) = 1
        put(0, 0, 9) = 1
        take(1, 0, 9) = 2
        come(0, 2) = 11
        often(0, 0, 9) = 1
        come(1, 1) = 11
        often(1, 0, 9) = 1
        """);
    rows.of(24, "a TAKE of x takes away no other x, though it KNOWS its PUT", """
        book 1: BAG BAG
        put(0, 0, 8) = 0
        put(0, 0, 9) = 1
        put(0, 1, 9) = 2
        take(0, 0, 9) = 3
        often(0, 0, 8) = 1
        often(0, 1, 9) = 1
        """);
  }

  private void insideCall() {
    rows.of(25, "the least first, 0 and 63 too, each x once", """
        book 1: BAG
        put(0, 0, 63) = 0
        2 x put(0, 0, 7) = 1 ..
        put(0, 0, 0) = 3
        inside(0, 0, 0) = 0 !
        inside(0, 0, 1) = 7 !
        inside(0, 0, 2) = 63 !
        inside(0, 0, 3) = BEYOND
        """);
    rows.of(25, "BEYOND: not so many (i below 0, too)", """
        book 1: BAG
        inside(0, 0, 0) = BEYOND
        put(0, 0, 5) = 0
        inside(0, 0, MIN) = BEYOND
        inside(0, 0, -9) = BEYOND
        inside(0, 0, -1) = BEYOND
        inside(0, 0, 0) = 5
        inside(0, 0, 1) = BEYOND
        inside(0, 0, MAX) = BEYOND
        """);
    rows.of(25, "all 64 of them", """
        book 1: BAG
        """ + putsOfAll() + """
        inside(0, 0, 0) = 0
        inside(0, 0, 63) = 63
        inside(0, 0, 64) = BEYOND
        take(0, 0, 0) = 64
        inside(0, 0, 0) = 1
        inside(0, 0, 62) = 63
        inside(0, 0, 63) = BEYOND
        """);
    rows.of(25, "what was taken away is not in it", """
        book 1: BAG
        put(0, 0, 5) = 0
        put(0, 0, 6) = 1
        take(0, 0, 5) = 2
        inside(0, 0, 0) = 6
        inside(0, 0, 1) = BEYOND
        take(0, 0, 6) = 3
        inside(0, 0, 0) = BEYOND
        """);
    rows.of(25, "BEYOND behind UNLIKE behind NOTHING", """
        book 1: BAG LAST
        inside(0, 1, -1) = UNLIKE
        keep(0, 1, false) = 1
        inside(0, 1, -1) = NOTHING
        keep(0, 0, false) = 1
        inside(0, 0, -1) = NOTHING
        """);
  }

  private static String putsOfAll() {
    StringBuilder s = new StringBuilder();
    for (int i = 0; i < 64; i++) s.append("put(0, 0, ").append(63 - i).append(") = ").append(i).append('\n');
    return s.toString();
  }

  private void headsCall() {
    rows.of(26, "none without CHANGES, one for one HAND however many it writes", """
        book 1: MANY
        heads(0, 0) = 0 !
        5 x write(0, 0, 1) = 0 ..
        heads(0, 0) = 1 !
        """);
    rows.of(26, "six of six HANDS, and one again behind a CHANGE that KNOWS them all", """
        book 6: MANY
        write(5, 0, 5) = 0
        write(4, 0, 4) = 1
        write(3, 0, 3) = 2
        write(2, 0, 2) = 3
        write(1, 0, 1) = 4
        write(0, 0, 0) = 5
        meet(5, 0, 9) = 1
        meet(4, 0, 9) = 1
        meet(3, 0, 9) = 1
        meet(2, 0, 9) = 1
        meet(1, 0, 9) = 1
        heads(0, 0) = 6
        head(0, 0, 0) = 5
        head(0, 0, 5) = 0
        asked() = 5
        head(0, 0, 6) = BEYOND
        digest(0) = fold 6 0 1 1 1 4 1 0 5 6 5 4 3 2 1 0
        write(0, 0, 9) = 6
        heads(0, 0) = 1
        head(0, 0, 0) = 6
        digest(0) = fold 7 0 2 2 2 4 1 6 9 1 6
        """);
    rows.of(26, "a HEAD is one that no other one there KNOWS: one that is not there takes none away", """
        book 3: MANY
        write(0, 0, 1) = 0
        meet(0, 1, 9) = 1
        write(1, 0, 2) = 1
        write(1, 0, 3) = 2
        come(0, 2) = 10
        heads(0, 0) = 1
        head(0, 0, 0) = 0
        come(0, 1) = 12
        heads(0, 0) = 1
        head(0, 0, 0) = 2
        """);
    rows.of(26, "of this PAGE: one of another PAGE that KNOWS it takes no HEAD away", """
        book 2: MANY MANY LAST
        write(0, 0, 1) = 0
        write(1, 0, 2) = 1
        meet(1, 0, 9) = 1
        write(0, 1, 3) = 2
        write(0, 2, 4) = 3
        heads(0, 0) = 2
        heads(0, 1) = 1
        head(0, 0, 0) = 0
        head(0, 0, 1) = 1
        """);
    rows.of(26, "one that KNOWS some of them", """
        book 3: MANY
        write(0, 0, 1) = 0
        write(1, 0, 2) = 1
        write(2, 0, 3) = 2
        meet(0, 1, 9) = 1
        write(1, 0, 4) = 3
        meet(2, 1, 9) = 1
        heads(1, 0) = 2
        head(1, 0, 0) = 2
        head(1, 0, 1) = 3
        """);
  }

  private void headCall() {
    rows.of(27, "BEYOND: a place below 0, or as many as there are HEADS; asked() stays", """
        book 2: MANY
        head(0, 0, 0) = BEYOND
        write(0, 0, 8) = 0
        write(1, 0, 9) = 1
        meet(1, 0, 9) = 1
        head(0, 0, MIN) = BEYOND
        head(0, 0, -1) = BEYOND
        head(0, 0, 0) = 0
        asked() = 8
        head(0, 0, 1) = 1
        asked() = 9
        head(0, 0, 2) = BEYOND
        head(0, 0, MAX) = BEYOND
        asked() = 9
        """);
    rows.of(27, "by STAMPS, the least first: the COUNT ahead of the HAND ahead of the number", """
        book 3: MANY LAST
        write(0, 1, 0) = 0
        write(0, 0, 5) = 1
        write(2, 0, 6) = 2
        write(1, 0, 7) = 3
        meet(1, 0, 9) = 1
        meet(2, 0, 9) = 1
        head(0, 0, 0) = 3
        head(0, 0, 1) = 2
        head(0, 0, 2) = 1
        asked() = 5
        """);
    rows.of(27, "BEYOND behind UNLIKE behind NOTHING", """
        book 1: MANY LAST
        head(0, 1, -1) = UNLIKE
        keep(0, 1, false) = 1
        head(0, 1, -1) = NOTHING
        keep(0, 0, false) = 1
        head(0, 0, 0) = NOTHING
        """);
  }

  private void rightsCall() {
    rows.of(28, "0 at first, told too", """
        book 2: PURSE LAST
        write(0, 1, 9) = 0
        value(0, 1) = 0
        rights(0, 0, 1) = 1
        asked() = 0
        """);
    rows.of(28, "BAD: also that HAND, ahead of NOTHING and UNLIKE", """
        book 6: PURSE LAST
        rights(0, 0, MIN) = BAD
        rights(0, 0, -1) = BAD
        rights(0, 0, 6) = BAD
        rights(0, 0, MAX) = BAD
        rights(0, 0, 5) = 1
        rights(0, 1, 6) = BAD
        rights(0, 1, 5) = UNLIKE
        keep(0, 0, false) = 1
        rights(0, 0, 6) = BAD
        rights(0, 0, 0) = NOTHING
        """);
    rows.of(28, "a GET gives to its HAND, a GIVE moves, a SPEND takes, in the COPY that has them", """
        book 3: PURSE
        add(0, 0, 10) = 0
        give(0, 0, 2, 10) = 1
        meet(0, 2, 1) = 1
        rights(2, 0, 0) = 1
        asked() = 10
        rights(2, 0, 2) = 1
        asked() = 0
        meet(0, 2, 1) = 1
        rights(2, 0, 0) = 1
        asked() = 0
        rights(2, 0, 2) = 1
        asked() = 10
        spend(2, 0, 4) = 2
        rights(2, 0, 2) = 1
        asked() = 6
        rights(0, 0, 2) = 1
        asked() = 10
        """);
    rows.of(28, "what is given and given back is all there again", """
        book 2: PURSE
        add(0, 0, 3) = 0
        give(0, 0, 1, 3) = 1
        meet(0, 1, 9) = 2
        give(1, 0, 0, 3) = 2
        spend(0, 0, 1) = BEYOND
        meet(1, 0, 9) = 1
        spend(0, 0, 3) = 3
        """);
  }

  private void upCall() {
    rows.of(29, "FLAG: up if there is an UP that no DOWN there KNOWS; down with none", """
        book 3: FLAG
        up(0, 0) = 0 !
        raise(0, 0, false) = 0
        up(0, 0) = 0
        raise(0, 0, true) = 1
        up(0, 0) = 1 !
        raise(1, 0, false) = 2
        come(0, 2) = 11
        up(0, 0) = 1
        meet(0, 2, 9) = 3
        raise(2, 0, false) = 3
        up(2, 0) = 0
        raise(0, 0, true) = 4
        come(0, 3) = 11
        up(0, 0) = 1
        """);
    rows.of(29, "FLAG: a DOWN that WAITS takes no UP away", """
        book 2: FLAG LAST
        raise(0, 0, true) = 0
        meet(0, 1, 9) = 1
        write(1, 1, 1) = 1
        raise(1, 0, false) = 2
        come(0, 2) = 10
        up(0, 0) = 1
        come(0, 1) = 12
        up(0, 0) = 0
        """);
    rows.of(29, "FLAG: a DOWN of another PAGE takes no UP away", """
        book 1: FLAG FLAG
        raise(0, 0, true) = 0
        raise(0, 1, false) = 1
        up(0, 0) = 1
        up(0, 1) = 0
        """);
    rows.of(29, "FLAG: of two UPS one is left that the DOWN does not KNOW", """
        book 2: FLAG
        raise(0, 0, true) = 0
        raise(1, 0, true) = 1
        raise(0, 0, false) = 2
        up(0, 0) = 0
        meet(1, 0, 9) = 1
        up(0, 0) = 1
        meet(0, 1, 9) = 2
        up(1, 0) = 1
        """);
  }

  private void calmCopies() {
    rows.of(29, "CALM: it is up if there is an UP: with none it is not, with a DOWN alone it is not", """
        book 1: CALM
        up(0, 0) = 0
        raise(0, 0, false) = 0
        up(0, 0) = 0
        """);
    rows.of(29, "CALM: each DOWN there is KNOWN by an UP there, perhaps by another UP each", """
        book 4: CALM
        raise(0, 0, false) = 0
        raise(0, 0, true) = 1
        raise(1, 0, false) = 2
        raise(1, 0, true) = 3
        up(0, 0) = 1
        meet(0, 2, 9) = 2
        come(2, 2) = 11
        up(2, 0) = 0
        come(2, 3) = 11
        up(2, 0) = 1
        raise(3, 0, false) = 4
        come(2, 4) = 11
        up(2, 0) = 0
        raise(2, 0, true) = 5
        up(2, 0) = 1
        """);
    rows.of(29, "CALM: an UP and a DOWN that do not KNOW each other: down, where a FLAG is up", """
        book 2: CALM FLAG
        raise(0, 0, true) = 0
        raise(0, 1, true) = 1
        raise(1, 0, false) = 2
        raise(1, 1, false) = 3
        meet(1, 0, 9) = 2
        up(0, 0) = 0
        up(0, 1) = 1
        """);
    rows.of(29, "CALM: an UP of another PAGE, an UP that WAITS KNOW no DOWN here", """
        book 2: CALM CALM
        raise(0, 0, true) = 0
        raise(0, 0, false) = 1
        raise(0, 1, true) = 2
        up(0, 0) = 0
        raise(0, 0, true) = 3
        come(1, 0) = 11
        come(1, 1) = 11
        come(1, 3) = 10
        up(1, 0) = 0
        come(1, 2) = 12
        up(1, 0) = 1
        """);
  }

  private void alikeCall() {
    rows.of(30, "BAD: a PAGE, a HAND that is none", """
        book 6: LAST LAST LAST LAST LAST LAST LAST LAST LAST LAST
        alike(MIN, 0, 1) = BAD
        alike(-1, 0, 1) = BAD
        alike(10, 0, 1) = BAD
        alike(MAX, 0, 1) = BAD
        alike(0, MIN, 1) = BAD
        alike(0, -1, 1) = BAD
        alike(0, 6, 1) = BAD
        alike(0, MAX, 1) = BAD
        alike(0, 1, MIN) = BAD
        alike(0, 1, -1) = BAD
        alike(0, 1, 6) = BAD
        alike(0, 1, MAX) = BAD
        alike(9, 5, 0) = 1 !
        alike(9, 0, 5) = 1 !
        """);
    rows.of(30, "twice the same HAND tells alike", """
        book 1: LAST
        alike(0, 0, 0) = 1
        write(0, 0, 1) = 0
        alike(0, 0, 0) = 1
        """);
    rows.of(30, "whether they KEEP it or not", """
        book 2: LAST
        keep(0, 0, false) = 1
        alike(0, 0, 1) = 1 !
        write(1, 0, 1) = 0
        alike(0, 0, 1) = 0 !
        keep(1, 0, false) = 1
        alike(0, 0, 1) = 0
        come(0, 0) = 11
        alike(0, 0, 1) = 1
        """);
    rows.of(30, "LAST: the same value of another CHANGE is not alike; CHANGES that tell nothing do not count", """
        book 2: LAST
        write(0, 0, 7) = 0
        write(1, 0, 7) = 1
        alike(0, 0, 1) = 0
        come(0, 1) = 11
        alike(0, 0, 1) = 1
        compare(0, 1) = 2
        """);
    rows.of(30, "TALLY: sum and how many", """
        book 2: TALLY
        add(0, 0, 3) = 0
        add(1, 0, 3) = 1
        alike(0, 0, 1) = 1
        add(1, 0, 0) = 2
        alike(0, 0, 1) = 0
        add(0, 0, 1) = 3
        alike(0, 0, 1) = 0
        """);
    rows.of(30, "TALLY: the numbers are told alike, not their hash", """
        book 2: TALLY
        add(0, 0, -1) = 0
        add(1, 0, -2) = 1
        31 x add(1, 0, 0) = 2 ..
        alike(0, 0, 1) = 0
        """);
    rows.of(30, "BAG: how often each x is in it, the first and the last", """
        book 2: BAG BAG
        put(0, 0, 0) = 0
        alike(0, 0, 1) = 0
        put(1, 0, 0) = 1
        alike(0, 0, 1) = 1
        put(0, 1, 63) = 2
        alike(1, 0, 1) = 0
        put(1, 1, 63) = 3
        alike(1, 0, 1) = 1
        put(1, 1, 63) = 4
        alike(1, 0, 1) = 0
        """);
    rows.of(30, "MANY: the HEADS too, though the CHANGE that tells is the same", """
        book 2: MANY
        write(0, 0, 1) = 0
        write(1, 0, 2) = 1
        come(0, 1) = 11
        value(0, 0) = 1
        value(1, 0) = 1
        alike(0, 0, 1) = 0
        come(1, 0) = 11
        alike(0, 0, 1) = 1
        """);
    rows.of(30, "MANY: as many HEADS, but others", """
        book 4: MANY LAST
        write(0, 0, 1) = 0
        write(1, 0, 2) = 1
        write(2, 1, 0) = 2
        write(2, 0, 3) = 3
        meet(2, 3, 9) = 2
        come(2, 0) = 11
        come(3, 1) = 11
        heads(2, 0) = 2
        heads(3, 0) = 2
        value(2, 0) = 3
        value(3, 0) = 3
        alike(0, 2, 3) = 0
        """);
    rows.of(30, "PURSE: RIGHTS too, though sum and how many are the same", """
        book 2: PURSE
        add(0, 0, 5) = 0
        add(1, 0, 5) = 1
        alike(0, 0, 1) = 0
        come(0, 1) = 11
        come(1, 0) = 11
        alike(0, 0, 1) = 1
        """);
    rows.of(30, "FLAG: UPS and DOWNS too, though both are up or down", """
        book 2: FLAG CALM
        raise(0, 0, false) = 0
        up(0, 0) = 0
        up(1, 0) = 0
        alike(0, 0, 1) = 0
        raise(1, 0, false) = 1
        alike(0, 0, 1) = 1
        raise(0, 1, true) = 2
        raise(1, 1, true) = 3
        alike(1, 0, 1) = 1
        raise(0, 1, true) = 4
        alike(1, 0, 1) = 0
        """);
  }
}
