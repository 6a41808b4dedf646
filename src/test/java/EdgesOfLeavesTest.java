/** Promises 31 to 35, and what the terms say of LEAVES: each sentence that names an edge. */
public final class EdgesOfLeavesTest {
  private final Dues dues = new Dues("EdgesOfLeavesTest");
  private final Rows rows = new Rows(dues);

  public static void main(String[] args) {
    EdgesOfLeavesTest t = new EdgesOfLeavesTest();
    t.handsThatAreNone();
    t.leavesCall();
    t.saveCall();
    t.tearCall();
    t.leafCall();
    t.copyRefused();
    t.copyOfSome();
    t.copyAsIfTakenAhead();
    t.dues.end();
  }

  private void handsThatAreNone() {
    noneSuch(31, "leaves(%s, 4)", "4");
    noneSuch(32, "save(%s, 0)", "1");
    noneSuch(33, "tear(%s, 0)", "NOTHING");
    noneSuch(34, "leaf(%s, 0)", "NOTHING");
    noneSuch(35, "copy(%s, 0, 1, 0, 1)", "1");
    noneSuch(35, "copy(1, 0, %s, 0, 1)", "1");
  }

  private void noneSuch(int promise, String call, String answer) {
    StringBuilder all = new StringBuilder("book 6\n");
    for (int h = 0; h < 6; h++) all.append("leaves(").append(h).append(", 2) = 2\n");
    for (String hand : new String[] {"MIN", "-1", "6", "MAX"}) all.append(String.format(call, hand)).append(" = BAD\n");
    all.append(String.format(call, "0")).append(" = ").append(answer).append('\n');
    all.append(String.format(call, "5")).append(" = ").append(answer).append('\n');
    rows.of(promise, "BAD: a HAND that is none", all.toString());
  }

  private void leavesCall() {
    rows.of(31, "none at first", """
        book 1
        save(0, 0) = BEYOND
        leaf(0, 0) = BEYOND
        tear(0, 0) = BEYOND
        copy(0, 0, 0, 0, 1) = BEYOND
        digest(0) = fold 0 0 0 0 0
        """);
    rows.of(31, "n LEAVES, 0 to 16; BAD: n above 16", """
        book 1
        leaves(0, 16) = 16
        save(0, 15) = 1
        save(0, 16) = BEYOND
        leaves(0, 17) = BAD
        leaves(0, MAX) = BAD
        leaf(0, 15) = 1
        leaves(0, 0) = 0
        save(0, 0) = BEYOND
        leaves(0, 1) = 1
        save(0, 0) = 1
        save(0, 1) = BEYOND
        """);
    rows.of(31, "SIZE: fewer than none", """
        book 1
        leaves(0, 2) = 2
        save(0, 1) = 1
        leaves(0, -1) = SIZE
        leaves(0, MIN) = SIZE
        findings(5) = 2
        leaf(0, 1) = 1
        """);
    rows.of(31, "BAD ahead of SIZE", """
        book 1
        leaves(1, -1) = BAD
        leaves(-1, -1) = BAD
        findings(5) = 0
        """);
    rows.of(31, "all missing, as many as there were, more or fewer", """
        book 1
        leaves(0, 3) = 3
        save(0, 0) = 1
        save(0, 2) = 1
        leaves(0, 3) = 3
        leaf(0, 0) = NOTHING
        leaf(0, 2) = NOTHING
        save(0, 0) = 1
        save(0, 2) = 1
        leaves(0, 1) = 1
        leaf(0, 0) = NOTHING
        leaf(0, 1) = BEYOND
        leaves(0, 16) = 16
        leaf(0, 0) = NOTHING
        leaf(0, 2) = NOTHING
        leaf(0, 15) = NOTHING
        digest(0) = fold 5*0 16*-1
        """);
    rows.of(31, "each HAND has a row of its own", """
        book 2
        leaves(0, 2) = 2
        leaves(1, 3) = 3
        save(0, 0) = 1
        leaf(1, 0) = NOTHING
        save(1, 2) = 1
        leaves(0, 0) = 0
        leaf(1, 2) = 1
        """);
  }

  private void saveCall() {
    rows.of(32, "BEYOND: a place that there is not", """
        book 1
        leaves(0, 2) = 2
        save(0, MIN) = BEYOND
        save(0, -1) = BEYOND
        save(0, 0) = 1
        save(0, 1) = 1
        save(0, 2) = BEYOND
        save(0, MAX) = BEYOND
        """);
    rows.of(32, "what asked() told last is put: 0 before any", """
        book 1
        leaves(0, 1) = 1
        save(0, 0) = 1
        leaf(0, 0) = 1
        asked() = 0
        digest(0) = fold 5*0 1 0
        """);
    rows.of(32, "the least and the greatest long, and one that was there before goes", """
        book 1: LAST
        leaves(0, 2) = 2
        write(0, 0, MIN) = 0
        value(0, 0) = 0
        asked() = MIN
        save(0, 0) = 1
        write(0, 0, MAX) = 1
        value(0, 0) = 1
        asked() = MAX
        save(0, 1) = 1
        leaf(0, 0) = 1
        asked() = MIN
        save(0, 1) = 1
        leaf(0, 1) = 1
        asked() = MIN
        """);
    rows.of(32, "saving tells nothing: what asked() tells stays", """
        book 1: LAST
        leaves(0, 1) = 1
        write(0, 0, 5) = 0
        value(0, 0) = 0
        save(0, 0) = 1
        asked() = 5
        """);
    rows.of(32, "a value of -1 is not a missing one", """
        book 1: LAST
        leaves(0, 2) = 2
        write(0, 0, -1) = 0
        value(0, 0) = 0
        save(0, 0) = 1
        leaf(0, 0) = 1
        asked() = -1
        digest(0) = fold 1 0 1 1 1 0 1 0 -1 1 -1 -1
        """);
  }

  private void tearCall() {
    rows.of(33, "BEYOND: a place that there is not", """
        book 1
        leaves(0, 1) = 1
        save(0, 0) = 1
        tear(0, MIN) = BEYOND
        tear(0, -1) = BEYOND
        tear(0, 1) = BEYOND
        tear(0, MAX) = BEYOND
        tear(0, 0) = 1
        """);
    rows.of(33, "NOTHING: it was missing", """
        book 1
        leaves(0, 16) = 16
        tear(0, 0) = NOTHING
        tear(0, 15) = NOTHING
        tear(0, 16) = BEYOND
        save(0, 15) = 1
        tear(0, 15) = 1
        tear(0, 15) = NOTHING
        """);
    rows.of(33, "LEAF i is missing, and no other", """
        book 1
        leaves(0, 3) = 3
        save(0, 0) = 1
        save(0, 1) = 1
        save(0, 2) = 1
        tear(0, 1) = 1
        leaf(0, 0) = 1
        leaf(0, 1) = NOTHING
        leaf(0, 2) = 1
        save(0, 1) = 1
        leaf(0, 1) = 1
        """);
  }

  private void leafCall() {
    rows.of(34, "BEYOND: a place that there is not; NOTHING: missing; asked() stays", """
        book 1: LAST
        leaves(0, 2) = 2
        write(0, 0, 5) = 0
        value(0, 0) = 0
        save(0, 1) = 1
        write(0, 0, 6) = 1
        value(0, 0) = 1
        leaf(0, MIN) = BEYOND
        leaf(0, -1) = BEYOND
        leaf(0, 0) = NOTHING
        leaf(0, 2) = BEYOND
        leaf(0, MAX) = BEYOND
        asked() = 6
        leaf(0, 1) = 1
        asked() = 5
        """);
    rows.of(34, "a LEAF stays as it was put, whatever the CHANGES do", """
        book 1: TALLY
        leaves(0, 1) = 1
        add(0, 0, 5) = 0
        sum(0, 0) = 1
        save(0, 0) = 1
        add(0, 0, 5) = 1
        sum(0, 0) = 2
        asked() = 10
        leaf(0, 0) = 1
        asked() = 5
        """);
  }

  private void copyRefused() {
    rows.of(35, "BEYOND: not so many there, from or to", """
        book 2
        leaves(0, 4) = 4
        leaves(1, 2) = 2
        save(0, 0) = 1
        copy(0, 0, 1, 0, 3) = BEYOND
        copy(1, 0, 0, 0, 3) = BEYOND
        copy(0, 3, 1, 0, 2) = BEYOND
        copy(0, 0, 1, 1, 2) = BEYOND
        copy(0, 3, 1, 0, 1) = 1
        copy(0, 0, 1, 1, 1) = 1
        copy(0, 4, 1, 0, 1) = BEYOND
        copy(0, 0, 1, 2, 1) = BEYOND
        """);
    rows.of(35, "BEYOND: a place, n below 0, too", """
        book 2
        leaves(0, 4) = 4
        leaves(1, 4) = 4
        save(0, 0) = 1
        copy(0, -1, 1, 0, 1) = BEYOND
        copy(0, MIN, 1, 0, 1) = BEYOND
        copy(0, 0, 1, -1, 1) = BEYOND
        copy(0, 0, 1, MIN, 1) = BEYOND
        copy(0, 0, 1, 0, -1) = BEYOND
        copy(0, 0, 1, 0, MIN) = BEYOND
        copy(0, -1, 1, 0, 0) = BEYOND
        copy(0, 0, 1, -1, 0) = BEYOND
        copy(0, 2, 1, 2, -1) = BEYOND
        """);
    rows.of(35, "BEYOND: sums of places that would wrap", """
        book 2
        leaves(0, 4) = 4
        leaves(1, 4) = 4
        copy(0, MAX, 1, 0, 1) = BEYOND
        copy(0, 0, 1, MAX, 1) = BEYOND
        copy(0, 0, 1, 0, MAX) = BEYOND
        copy(0, 1, 1, 1, MAX) = BEYOND
        copy(0, MAX, 1, MAX, MAX) = BEYOND
        copy(0, MIN, 1, MIN, MIN) = BEYOND
        copy(0, MAX, 1, MAX, 0) = BEYOND
        """);
    rows.of(35, "BAD ahead of BEYOND", """
        book 1
        copy(1, -1, 0, 0, 1) = BAD
        copy(0, -1, 1, 0, 1) = BAD
        copy(0, 0, -1, 0, -1) = BAD
        finding() = 0
        """);
  }

  private void copyOfSome() {
    rows.of(35, "none: n is 0, from and to any place up to the end", """
        book 2
        copy(0, 0, 1, 0, 0) = 1 !
        leaves(0, 2) = 2
        save(0, 0) = 1
        copy(0, 0, 0, 1, 0) = 1 !
        copy(0, 2, 0, 2, 0) = 1 !
        copy(0, 2, 1, 0, 0) = 1 !
        copy(0, 3, 1, 0, 0) = BEYOND
        copy(0, 0, 1, 1, 0) = BEYOND
        """);
    rows.of(35, "all 16", """
        book 2: LAST
        leaves(0, 16) = 16
        leaves(1, 16) = 16
        save(0, 0) = 1
        write(0, 0, 7) = 0
        value(0, 0) = 0
        save(0, 15) = 1
        copy(0, 0, 1, 0, 17) = BEYOND
        copy(0, 1, 1, 0, 16) = BEYOND
        copy(0, 0, 1, 1, 16) = BEYOND
        copy(0, 0, 1, 0, 16) = 1
        digest(1) = fold 0 0 0 0 0 0 1 NONE 0 1 0 14*-1 1 7
        """);
    rows.of(35, "missing ones, too: what was there is missing then", """
        book 2
        leaves(0, 2) = 2
        leaves(1, 2) = 2
        save(0, 1) = 1
        save(1, 0) = 1
        copy(0, 0, 1, 0, 2) = 1
        leaf(1, 0) = NOTHING
        leaf(1, 1) = 1
        leaf(0, 0) = NOTHING
        leaf(0, 1) = 1
        """);
    rows.of(35, "copied ones are the other one's own: tearing or losing one does not touch the other", """
        book 2
        leaves(0, 1) = 1
        leaves(1, 1) = 1
        save(0, 0) = 1
        copy(0, 0, 1, 0, 1) = 1
        tear(0, 0) = 1
        leaf(1, 0) = 1
        leaves(0, 0) = 0
        leaf(1, 0) = 1
        """);
    rows.of(35, "LEAVES around those stay; copying tells nothing", """
        book 2: LAST
        leaves(0, 1) = 1
        leaves(1, 3) = 3
        save(1, 0) = 1
        save(1, 2) = 1
        write(0, 0, 5) = 0
        value(0, 0) = 0
        save(0, 0) = 1
        write(0, 0, 6) = 1
        value(0, 0) = 1
        copy(0, 0, 1, 1, 1) = 1
        asked() = 6
        leaf(1, 0) = 1
        asked() = 0
        leaf(1, 1) = 1
        asked() = 5
        leaf(1, 2) = 1
        asked() = 0
        """);
  }

  /** A row of 0, missing, 2, 3 by its own HAND. */
  private void copyAsIfTakenAhead() {
    String row = """
        book 1: TALLY
        leaves(0, 4) = 4
        save(0, 0) = 1
        add(0, 0, 2) = 0
        sum(0, 0) = 1
        save(0, 2) = 1
        add(0, 0, 1) = 1
        sum(0, 0) = 2
        save(0, 3) = 1
        """;
    rows.of(35, "its own, as if taken ahead: upwards", row + """
        copy(0, 0, 0, 1, 3) = 1
        digest(0) = fold 2 0 2 2 2 2 1 3 2 1 0 1 0 -1 1 2
        """);
    rows.of(35, "its own, as if taken ahead: downwards", row + """
        copy(0, 1, 0, 0, 3) = 1
        digest(0) = fold 2 0 2 2 2 2 1 3 2 -1 1 2 1 3 1 3
        """);
    rows.of(35, "its own, onto themselves", row + """
        copy(0, 0, 0, 0, 4) = 1 !
        digest(0) = fold 2 0 2 2 2 2 1 3 2 1 0 -1 1 2 1 3
        """);
    rows.of(35, "its own, one beside the other", row + """
        copy(0, 2, 0, 0, 2) = 1
        digest(0) = fold 2 0 2 2 2 2 1 3 2 1 2 1 3 1 2 1 3
        """);
  }
}
