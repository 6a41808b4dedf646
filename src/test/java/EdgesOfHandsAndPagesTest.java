/** Promises 1 to 5, and what the terms say of HANDS, PAGES and KINDS: each sentence that names an edge. */
public final class EdgesOfHandsAndPagesTest {
  private final Dues dues = new Dues("EdgesOfHandsAndPagesTest");
  private final Rows rows = new Rows(dues);

  public static void main(String[] args) {
    EdgesOfHandsAndPagesTest t = new EdgesOfHandsAndPagesTest();
    t.newObject();
    t.handCall();
    t.pageCall();
    t.isCall();
    t.keepCall();
    t.lastCallOfAll();
    t.dues.end();
  }

  private void newObject() {
    rows.of(1, "no HANDS, no PAGES", """
        count(0) = 0 !
        count(1) = 0 !
        count(2) = 0 !
        asked() = 0 !
        finding() = 0 !
        findings(1) = 0 !
        findings(5) = 0 !
        digest(0) = 0 !
        is(0, LAST) = BAD
        told(0, 0) = BAD
        """);
    rows.of(1, "no call that names a HAND, a PAGE or a CHANGE finds one", """
        keep(0, 0, true) = BAD
        write(0, 0, 1) = BAD
        add(0, 0, 1) = BAD
        put(0, 0, 1) = BAD
        take(0, 0, 1) = BAD
        give(0, 0, 1, 1) = BAD
        spend(0, 0, 1) = BAD
        raise(0, 0, true) = BAD
        change(0, 0) = BAD
        knows(0, 0) = BAD
        come(0, 0) = BAD
        meet(0, 1, 1) = BAD
        lose(0) = BAD
        has(0, 0) = BAD
        compare(0, 0) = BAD
        value(0, 0) = BAD
        sum(0, 0) = BAD
        mean(0, 0) = BAD
        often(0, 0, 0) = BAD
        inside(0, 0, 0) = BAD
        heads(0, 0) = BAD
        head(0, 0, 0) = BAD
        rights(0, 0, 0) = BAD
        up(0, 0) = BAD
        alike(0, 0, 0) = BAD
        leaves(0, 0) = BAD
        leaves(0, -1) = BAD
        save(0, 0) = BAD
        tear(0, 0) = BAD
        leaf(0, 0) = BAD
        copy(0, 0, 0, 0, 0) = BAD
        hand() = 0
        page(LAST) = 0
        """);
  }

  private void handCall() {
    rows.of(2, "HANDS 0, 1, .. (6 at most); FULL", """
        6 x hand() = 0 ..
        hand() = FULL
        hand() = FULL
        count(0) = 6
        told(5, 0) = 0
        told(6, 0) = BAD
        digest(5) = fold 0 0 0 0 0
        digest(6) = 0
        """);
    rows.of(2, "a HAND, without CHANGES", """
        hand() = 0
        told(0, 0) = 0
        told(0, 1) = 0
        told(0, 2) = 0
        told(0, 3) = 0
        told(0, 4) = 0
        """);
    rows.of(2, "STATE: a CHANGE was made", """
        book 5: LAST
        write(4, 0, 1) = 0
        hand() = STATE
        count(0) = 5
        """);
    rows.of(2, "STATE: a CHANGE was made, though no HAND has it now", """
        book 1: LAST
        write(0, 0, 1) = 0
        lose(0) = 1
        hand() = STATE
        """);
    rows.of(2, "STATE is for a CHANGE alone, not for one that was refused", """
        book 1: LAST TALLY
        add(0, 0, 1) = UNLIKE
        keep(0, 0, false) = 1
        write(0, 0, 1) = NOTHING
        leaves(0, 3) = 3
        lose(0) = 0
        hand() = 1
        """);
    rows.of(2, "FULL ahead of STATE", """
        book 6: LAST
        write(0, 0, 1) = 0
        hand() = FULL
        """);
  }

  private void pageCall() {
    rows.of(3, "a KIND goes from 0 to 7; BAD", """
        page(MIN) = BAD
        page(-1) = BAD
        page(0) = 0
        page(7) = 1
        page(8) = BAD
        page(MAX) = BAD
        count(1) = 2
        """);
    rows.of(3, "PAGES 0, 1, .. (10 at most); FULL", """
        10 x page(BAG) = 0 ..
        page(BAG) = FULL
        page(LAST) = FULL
        count(1) = 10
        is(9, BAG) = 1
        is(10, BAG) = BAD
        """);
    rows.of(3, "BAD ahead of FULL", """
        10 x page(CALM) = 0 ..
        page(8) = BAD
        page(-1) = BAD
        """);
    rows.of(3, "a PAGE comes at any time: behind CHANGES, behind all that there may be", """
        book 1: LAST
        400 x write(0, 0, 1) = 0 ..
        write(0, 0, 1) = FULL
        page(LAST) = 1
        value(0, 1) = NONE
        """);
    rows.of(3, "all HANDS know of it, and KEEP it at first", """
        book 2: LAST
        keep(0, 0, false) = 1
        page(LAST) = 1
        keep(0, 1, true) = 1
        value(1, 1) = NONE
        hand() = 2
        value(2, 0) = NONE
        value(2, 1) = NONE
        keep(2, 0, false) = 1
        """);
  }

  private void isCall() {
    rows.of(4, "BAD: a PAGE, a KIND that is none", """
        book 0: LAST CALM
        is(MIN, 0) = BAD
        is(-1, 0) = BAD
        is(0, 0) = 1 !
        is(1, 0) = 0 !
        is(2, 0) = BAD
        is(MAX, 0) = BAD
        is(0, MIN) = BAD
        is(0, -1) = BAD
        is(1, 7) = 1 !
        is(0, 7) = 0
        is(0, 8) = BAD
        is(0, MAX) = BAD
        """);
    rows.of(4, "it is, or is under, a KIND; what is above is not under", """
        book 0: LAST FIRST TALLY BAG MANY PURSE FLAG CALM
        is(1, LAST) = 1
        is(0, FIRST) = 0
        is(4, LAST) = 1
        is(0, MANY) = 0
        is(4, FIRST) = 0
        is(1, MANY) = 0
        is(5, TALLY) = 1
        is(2, PURSE) = 0
        is(7, FLAG) = 1
        is(6, CALM) = 0
        is(3, BAG) = 1
        is(3, LAST) = 0
        is(5, LAST) = 0
        is(7, TALLY) = 0
        """);
  }

  private void keepCall() {
    rows.of(5, "1 if it did, and it does at first", """
        book 1: LAST
        keep(0, 0, true) = 1 !
        keep(0, 0, false) = 1
        keep(0, 0, false) = 0 !
        keep(0, 0, true) = 0
        keep(0, 0, true) = 1 !
        """);
    rows.of(5, "BAD: a HAND, a PAGE that is none", """
        book 6: LAST
        9 x page(LAST) = 1 ..
        keep(MIN, 0, false) = BAD
        keep(-1, 0, false) = BAD
        keep(6, 0, false) = BAD
        keep(MAX, 0, false) = BAD
        keep(0, MIN, false) = BAD
        keep(0, -1, false) = BAD
        keep(0, 10, false) = BAD
        keep(0, MAX, false) = BAD
        keep(5, 9, false) = 1
        value(5, 9) = NOTHING
        value(5, 8) = NONE
        value(4, 9) = NONE
        """);
    rows.of(5, "one that it does not keep is changed all the same", """
        book 2: TALLY
        keep(0, 0, false) = 1
        add(1, 0, 5) = 0
        come(0, 0) = 11
        add(1, 0, 6) = 1
        meet(1, 0, 9) = 1
        sum(0, 0) = NOTHING
        alike(0, 0, 1) = 1
        keep(0, 0, true) = 0
        sum(0, 0) = 2
        asked() = 11
        """);
    rows.of(5, "one that it does not keep is not asked or written by it, but by others", """
        book 2: LAST TALLY BAG MANY PURSE FLAG
        """ + unkept(6) + """
        write(0, 0, 1) = NOTHING
        value(0, 0) = NOTHING
        add(0, 1, 1) = NOTHING
        sum(0, 1) = NOTHING
        mean(0, 1) = NOTHING
        put(0, 2, 1) = NOTHING
        take(0, 2, 1) = NOTHING
        often(0, 2, 1) = NOTHING
        inside(0, 2, 0) = NOTHING
        heads(0, 3) = NOTHING
        head(0, 3, 0) = NOTHING
        give(0, 4, 1, 0) = NOTHING
        spend(0, 4, 0) = NOTHING
        rights(0, 4, 0) = NOTHING
        raise(0, 5, true) = NOTHING
        up(0, 5) = NOTHING
        findings(1) = 16
        write(1, 0, 1) = 0
        add(1, 1, 1) = 1
        put(1, 2, 1) = 2
        write(1, 3, 1) = 3
        give(1, 4, 0, 0) = 4
        raise(1, 5, true) = 5
        """);
    rows.of(5, "a HAND that lost all may KEEP or not, and what it made elsewhere it makes still", """
        book 2: LAST LAST
        keep(0, 0, false) = 1
        write(0, 1, 1) = 0
        lose(0) = 1
        keep(0, 0, false) = 1
        write(0, 0, 1) = STATE
        come(0, 0) = 11
        write(0, 0, 1) = NOTHING
        write(0, 1, 1) = 1
        """);
  }

  private static String unkept(int pages) {
    StringBuilder s = new StringBuilder();
    for (int p = 0; p < pages; p++) s.append("keep(0, ").append(p).append(", false) = 1\n");
    return s.toString();
  }

  private void lastCallOfAll() {
    rows.of(0, "an object is used for 512 calls: the last ones answer as the first", """
        book 2: LAST
        400 x write(0, 0, 7) = 0 ..
        meet(0, 1, 400) = 400
        104 x told(1, 0) = 400
        write(1, 0, 1) = FULL
        value(1, 0) = 399
        asked() = 7
        compare(0, 1) = 0
        """);
  }
}
