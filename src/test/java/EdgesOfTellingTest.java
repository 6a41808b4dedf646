/** Promises 36 to 40: each sentence that names an edge of what is told. */
public final class EdgesOfTellingTest {
  private final Dues dues = new Dues("EdgesOfTellingTest");
  private final Rows rows = new Rows(dues);

  public static void main(String[] args) {
    EdgesOfTellingTest t = new EdgesOfTellingTest();
    t.askedCall();
    t.askedStays();
    t.countCall();
    t.findingCall();
    t.findingsCall();
    t.digestCall();
    t.digestOfEachKind();
    t.digestOfLeaves();
    t.dues.end();
  }

  private void askedCall() {
    rows.of(36, "0 before", """
        asked() = 0 !
        book 1: LAST
        value(0, 0) = NONE
        asked() = 0
        """);
    rows.of(36, "what the latest value(), sum(), mean(), head(), rights(), leaf() told", """
        book 1: LAST TALLY MANY PURSE
        leaves(0, 1) = 1
        write(0, 0, 1) = 0
        value(0, 0) = 0
        asked() = 1 !
        asked() = 1
        add(0, 1, 20) = 1
        add(0, 1, 21) = 2
        sum(0, 1) = 2
        asked() = 41
        mean(0, 1) = 1
        asked() = 20
        write(0, 2, 5) = 3
        head(0, 2, 0) = 3
        asked() = 5
        save(0, 0) = 1
        add(0, 3, 6) = 4
        rights(0, 3, 0) = 1
        asked() = 6
        leaf(0, 0) = 1
        asked() = 5
        """);
    rows.of(36, "of sum() and rights() of none it is 0", """
        book 2: LAST TALLY PURSE
        write(0, 0, 8) = 0
        value(0, 0) = 0
        sum(0, 1) = 0
        asked() = 0
        value(0, 0) = 0
        asked() = 8
        rights(0, 2, 1) = 1
        asked() = 0
        """);
  }

  private void askedStays() {
    rows.of(36, "value() that is NONE, and all that is refused, leave it", """
        book 2: LAST TALLY MANY PURSE
        leaves(0, 1) = 1
        write(0, 0, 8) = 0
        value(0, 0) = 0
        value(1, 0) = NONE !
        value(2, 0) = BAD
        value(0, 1) = UNLIKE
        sum(0, 0) = UNLIKE
        sum(0, 9) = BAD
        mean(0, 1) = NOUGHT
        head(0, 2, 0) = BEYOND
        head(0, 0, 0) = UNLIKE
        rights(0, 3, 2) = BAD
        rights(0, 0, 0) = UNLIKE
        leaf(0, 0) = NOTHING
        leaf(0, 1) = BEYOND
        leaf(2, 0) = BAD
        keep(0, 1, false) = 1
        sum(0, 1) = NOTHING
        asked() = 8
        """);
    rows.of(36, "no other call tells by it", """
        book 2: LAST BAG MANY FLAG PURSE
        write(0, 0, 8) = 0
        value(0, 0) = 0
        put(0, 1, 3) = 1
        often(0, 1, 3) = 1 !
        inside(0, 1, 0) = 3 !
        write(0, 2, 4) = 2
        heads(0, 2) = 1 !
        raise(0, 3, true) = 3
        up(0, 3) = 1 !
        add(0, 4, 9) = 4
        give(0, 4, 1, 2) = 5
        spend(0, 4, 1) = 6
        leaves(0, 2) = 2
        save(0, 0) = 1
        copy(0, 0, 0, 1, 1) = 1
        tear(0, 0) = 1
        meet(0, 1, 9) = 7
        told(0, 0) = 7 !
        count(2) = 7 !
        alike(0, 0, 1) = 1 !
        compare(0, 1) = 0 !
        lose(1) = 7
        asked() = 8
        """);
  }

  private void countCall() {
    rows.of(37, "BAD: what is not 0, 1, 2", """
        count(MIN) = BAD
        count(-1) = BAD
        count(0) = 0
        count(2) = 0
        count(3) = BAD
        count(MAX) = BAD
        """);
    rows.of(37, "0 HANDS, 1 PAGES, 2 CHANGES, as many as there may be", """
        book 6: LAST LAST LAST LAST LAST LAST LAST LAST LAST LAST
        400 x write(0, 0, 1) = 0 ..
        hand() = FULL
        page(LAST) = FULL
        write(0, 0, 1) = FULL
        count(0) = 6
        count(1) = 10
        count(2) = 400
        """);
    rows.of(37, "2 CHANGES that were made, lost ones too", """
        book 1: LAST
        write(0, 0, 1) = 0
        lose(0) = 1
        count(2) = 1 !
        """);
  }

  private void findingCall() {
    rows.of(38, "0 before any; BAD, FULL, STATE are none", """
        finding() = 0 !
        page(8) = BAD
        book 6: LAST LAST LAST LAST LAST LAST LAST LAST LAST LAST
        hand() = FULL
        page(LAST) = FULL
        write(0, 0, 1) = 0
        lose(0) = 1
        write(0, 0, 1) = STATE
        value(0, 0) = NONE
        finding() = 0
        """);
    rows.of(38, "BAD, FULL, STATE leave the latest one", """
        book 6: LAST LAST LAST LAST LAST LAST LAST LAST LAST LAST
        leaves(0, -1) = SIZE
        hand() = FULL
        page(LAST) = FULL
        page(8) = BAD
        write(0, 0, 1) = 0
        lose(0) = 1
        write(0, 0, 1) = STATE
        write(0, 10, 1) = BAD
        399 x write(1, 0, 1) = 1 ..
        write(0, 0, 1) = FULL
        finding() = 5
        findings(5) = 1
        """);
    rows.of(38, "STATE of hand() leaves the latest one", """
        book 1: LAST
        write(0, 0, 1) = 0
        leaves(0, -1) = SIZE
        hand() = STATE
        finding() = 5
        """);
    rows.of(38, "the latest one, each of the five; it stays till another one", """
        book 1: LAST TALLY
        mean(0, 1) = NOUGHT
        finding() = 4 !
        leaves(0, -1) = SIZE
        finding() = 5
        leaf(0, 0) = BEYOND
        finding() = 2
        sum(0, 0) = UNLIKE
        finding() = 3
        leaves(0, 1) = 1
        leaf(0, 0) = NOTHING
        finding() = 1
        write(0, 0, 1) = 0
        value(9, 0) = BAD
        finding() = 1
        sum(0, 0) = UNLIKE
        finding() = 3
        """);
  }

  private void findingsCall() {
    rows.of(39, "BAD: f is not 1 to 5", """
        findings(MIN) = BAD
        findings(-1) = BAD
        findings(0) = BAD
        findings(1) = 0 !
        findings(5) = 0 !
        findings(6) = BAD
        findings(MAX) = BAD
        """);
    rows.of(39, "how often each one was answered", """
        book 1: LAST TALLY
        leaves(0, 1) = 1
        5 x leaf(0, 0) = NOTHING
        4 x leaf(0, 1) = BEYOND
        3 x sum(0, 0) = UNLIKE
        2 x mean(0, 1) = NOUGHT
        leaves(0, -1) = SIZE
        findings(1) = 5 !
        findings(2) = 4 !
        findings(3) = 3 !
        findings(4) = 2 !
        findings(5) = 1 !
        """);
    rows.of(39, "all calls long", """
        book 1
        500 x leaf(0, 0) = BEYOND
        findings(2) = 500
        finding() = 2
        """);
  }

  private void digestCall() {
    rows.of(40, "0: none such", """
        digest(0) = 0
        book 6: LAST
        digest(MIN) = 0 !
        digest(-1) = 0 !
        digest(6) = 0 !
        digest(MAX) = 0 !
        digest(0) = fold 0 0 0 0 0 0 1 NONE 0
        digest(5) = fold 0 0 0 0 0 0 1 NONE 0
        """);
    rows.of(40, "h = 17; a HAND without PAGES and LEAVES tells told() alone", """
        book 1
        digest(0) = 486695567
        digest(0) = fold 0 0 0 0 0 !
        """);
    rows.of(40, "told() 0 to 4, in this order", """
        book 2: LAST
        4 x write(0, 0, 1) = 0 ..
        come(1, 0) = 11
        write(1, 0, 1) = 4
        come(1, 1) = 11
        come(1, 3) = 10
        digest(1) = fold 3 1 2 1 1 0 1 4 1
        lose(1) = 3
        digest(1) = fold 0 0 0 0 1 0 1 NONE 0
        """);
    rows.of(40, "whether it is kept: 1, 0; its CHANGE is told all the same", """
        book 1: LAST TALLY
        write(0, 0, 5) = 0
        keep(0, 0, false) = 1
        digest(0) = fold 1 0 1 1 1 0 0 0 5 2 1 0 0
        keep(0, 1, false) = 1
        digest(0) = fold 1 0 1 1 1 0 0 0 5 2 0 0 0
        keep(0, 0, true) = 0
        digest(0) = fold 1 0 1 1 1 0 1 0 5 2 0 0 0
        """);
    rows.of(40, "copies that have the same CHANGES are the same, but for told() 3, 4", """
        book 2: LAST MANY
        write(0, 0, 5) = 0
        write(0, 1, 6) = 1
        come(1, 1) = 10
        come(1, 0) = 12
        digest(0) = fold 2 0 2 2 2 0 1 0 5 4 1 1 6 1 1
        digest(1) = fold 2 0 2 0 0 0 1 0 5 4 1 1 6 1 1
        """);
  }

  private void digestOfEachKind() {
    rows.of(40, "all KINDS without CHANGES", """
        book 1: LAST FIRST TALLY BAG MANY PURSE FLAG CALM
        digest(0) = fold 5*0 0 1 NONE 0 1 1 NONE 0 2 1 0 0 3 1 64*0 4 1 NONE 0 0 5 1 0 0 6*0 6 1 0 0 0 7 1 0 0 0
        """);
    rows.of(40, "LAST and FIRST: the CHANGE and its value", """
        book 1: LAST FIRST
        write(0, 0, MIN) = 0
        write(0, 0, 6) = 1
        write(0, 1, 7) = 2
        write(0, 1, 8) = 3
        digest(0) = fold 4 0 4 4 4 0 1 1 6 1 1 2 7
        """);
    rows.of(40, "TALLY: sum and how many", """
        book 1: TALLY
        add(0, 0, MAX) = 0
        add(0, 0, 2) = 1
        digest(0) = fold 2 0 2 2 2 2 1 -9223372036854775807 2
        """);
    rows.of(40, "BAG: how often each x is in it, from 0 to 63", """
        book 1: BAG
        2 x put(0, 0, 0) = 0 ..
        put(0, 0, 5) = 2
        take(0, 0, 5) = 3
        put(0, 0, 62) = 4
        3 x put(0, 0, 63) = 5 ..
        digest(0) = fold 8 0 8 8 8 3 1 2 61*0 1 3
        """);
    rows.of(40, "PURSE: RIGHTS of HANDS 0 .. 5, though there are fewer HANDS", """
        book 2: PURSE
        add(0, 0, 9) = 0
        give(0, 0, 1, 2) = 1
        spend(0, 0, 3) = 2
        digest(0) = fold 3 0 3 3 3 5 1 6 3 4 2 0 0 0 0
        """);
    rows.of(40, "PURSE: RIGHTS of HANDS 0 .. 5, all six", """
        book 6: PURSE
        add(0, 0, 9) = 0
        give(0, 0, 5, 2) = 1
        give(0, 0, 4, 3) = 2
        digest(0) = fold 3 0 3 3 3 5 1 9 3 4 0 0 0 3 2
        """);
    rows.of(40, "FLAG: whether it is up, how many UPS, how many DOWNS", """
        book 1: FLAG CALM
        3 x raise(0, 0, true) = 0 ..
        2 x raise(0, 0, false) = 3 ..
        2 x raise(0, 1, false) = 5 ..
        raise(0, 1, true) = 7
        digest(0) = fold 8 0 8 8 8 6 1 0 3 2 7 1 1 1 2
        """);
  }

  private void digestOfLeaves() {
    rows.of(40, "LEAVES: -1 for a missing one, else 1 and it", """
        book 1: LAST
        leaves(0, 3) = 3
        write(0, 0, MAX) = 0
        value(0, 0) = 0
        save(0, 1) = 1
        digest(0) = fold 1 0 1 1 1 0 1 0 9223372036854775807 -1 1 9223372036854775807 -1
        leaves(0, 0) = 0
        digest(0) = fold 1 0 1 1 1 0 1 0 9223372036854775807
        """);
    rows.of(40, "all 16 LEAVES", """
        book 1
        leaves(0, 16) = 16
        save(0, 0) = 1
        save(0, 15) = 1
        digest(0) = fold 5*0 1 0 14*-1 1 0
        """);
  }
}
