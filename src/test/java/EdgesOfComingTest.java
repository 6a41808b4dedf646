/** Promises 15 to 20, and what the terms say of a CHANGE that comes to a HAND: each sentence that names an edge. */
public final class EdgesOfComingTest {
  private final Dues dues = new Dues("EdgesOfComingTest");
  private final Rows rows = new Rows(dues);

  public static void main(String[] args) {
    EdgesOfComingTest t = new EdgesOfComingTest();
    t.comeRefused();
    t.comeTwiceLateAhead();
    t.comeWhileOthersWait();
    t.meetRefused();
    t.meetHowMany();
    t.meetInWhichOrder();
    t.meetAsideOfThoseThatWaited();
    t.loseCall();
    t.loseTillItHasAllAgain();
    t.toldCall();
    t.hasCall();
    t.compareCall();
    t.dues.end();
  }

  private void comeRefused() {
    rows.of(15, "BAD: a HAND, a CHANGE that is none", """
        book 6: LAST
        come(0, 0) = BAD
        write(0, 0, 1) = 0
        come(MIN, 0) = BAD
        come(-1, 0) = BAD
        come(6, 0) = BAD
        come(MAX, 0) = BAD
        come(0, MIN) = BAD
        come(0, -1) = BAD
        come(0, 1) = BAD
        come(0, MAX) = BAD
        come(5, 0) = 11
        """);
    rows.of(15, "the last CHANGE of all may come, the next one is none", """
        book 2: LAST
        399 x write(0, 0, 1) = 0 ..
        write(1, 0, 1) = 399
        come(0, 399) = 11
        come(0, 400) = BAD
        """);
  }

  private void comeTwiceLateAhead() {
    rows.of(15, "2 it has it: nothing", """
        book 2: LAST
        write(0, 0, 1) = 0
        come(0, 0) = 2 !
        come(1, 0) = 11
        come(1, 0) = 2 !
        """);
    rows.of(15, "10: it WAITS; one that WAITS and comes again WAITS once", """
        book 2: LAST
        3 x write(0, 0, 1) = 0 ..
        come(1, 2) = 10
        come(1, 2) = 10 !
        told(1, 1) = 1
        come(1, 1) = 10
        come(1, 2) = 10 !
        told(1, 1) = 2
        told(1, 0) = 0
        come(1, 0) = 13
        told(1, 0) = 3
        told(1, 1) = 0
        come(1, 2) = 2 !
        come(1, 1) = 2 !
        """);
    rows.of(15, "late: behind one that does not KNOW it", """
        book 3: LAST
        write(0, 0, 1) = 0
        write(1, 0, 2) = 1
        come(2, 1) = 11
        come(2, 0) = 11
        value(2, 0) = 1
        """);
    rows.of(15, "what WAITS is not in the COPIES", """
        book 2: LAST TALLY BAG MANY PURSE FLAG
        write(0, 3, 1) = 0
        write(0, 0, 1) = 1
        add(0, 1, 1) = 2
        put(0, 2, 1) = 3
        write(0, 3, 1) = 4
        add(0, 4, 1) = 5
        raise(0, 5, true) = 6
        come(1, 1) = 10
        come(1, 2) = 10
        come(1, 3) = 10
        come(1, 4) = 10
        come(1, 5) = 10
        come(1, 6) = 10
        told(1, 1) = 6
        value(1, 0) = NONE
        sum(1, 1) = 0
        often(1, 2, 1) = 0
        heads(1, 3) = 0
        rights(1, 4, 0) = 1
        asked() = 0
        up(1, 5) = 0
        come(1, 0) = 17
        value(1, 0) = 1
        up(1, 5) = 1
        """);
    rows.of(15, "to a HAND that does not KEEP its PAGE, as to any other", """
        book 2: LAST
        keep(1, 0, false) = 1
        2 x write(0, 0, 1) = 0 ..
        come(1, 1) = 10
        come(1, 0) = 12
        come(1, 1) = 2
        """);
  }

  private void comeWhileOthersWait() {
    rows.of(15, "READY for a HAND that has all that it KNOWS, of other PAGES and HANDS too", """
        book 4: LAST TALLY
        add(0, 1, 1) = 0
        add(1, 1, 1) = 1
        come(2, 0) = 11
        come(2, 1) = 11
        write(2, 0, 5) = 2
        come(3, 2) = 10
        come(3, 0) = 11
        has(3, 2) = 1
        come(3, 1) = 12
        has(3, 2) = 2
        """);
    rows.of(15, "over and over, along a chain of makers that came the other way round", """
        book 6: LAST
        write(5, 0, 1) = 0
        meet(5, 4, 9) = 1
        write(4, 0, 1) = 1
        meet(4, 3, 9) = 2
        write(3, 0, 1) = 2
        meet(3, 2, 9) = 3
        write(2, 0, 1) = 3
        meet(2, 1, 9) = 4
        write(1, 0, 1) = 4
        come(0, 4) = 10
        come(0, 3) = 10
        come(0, 2) = 10
        come(0, 1) = 10
        come(0, 0) = 15
        told(0, 0) = 5
        told(0, 1) = 0
        """);
    rows.of(15, "over and over, along a chain that came in some order: greater STAMPS behind lesser ones", """
        book 2: LAST
        6 x write(0, 0, 1) = 0 ..
        come(1, 3) = 10
        come(1, 5) = 10
        come(1, 1) = 10
        come(1, 4) = 10
        told(1, 1) = 4
        come(1, 0) = 12
        told(1, 1) = 3
        has(1, 3) = 1
        come(1, 2) = 14
        told(1, 1) = 0
        """);
    rows.of(15, "one that comes and WAITS takes none along; one that is READY leaves those that are not", """
        book 3: LAST
        2 x write(0, 0, 1) = 0 ..
        2 x write(1, 0, 1) = 2 ..
        come(2, 1) = 10
        come(2, 3) = 10
        told(2, 1) = 2
        come(2, 2) = 12
        has(2, 1) = 1
        has(2, 3) = 2
        come(2, 0) = 12
        told(2, 1) = 0
        """);
    rows.of(15, "of two that wait the same one makes READY, both are TAKEN", """
        book 4: LAST
        write(0, 0, 1) = 0
        meet(0, 1, 9) = 1
        meet(0, 2, 9) = 1
        write(1, 0, 1) = 1
        write(2, 0, 1) = 2
        come(3, 2) = 10
        come(3, 1) = 10
        come(3, 0) = 13
        """);
    rows.of(15, "a hundred at once", """
        book 2: LAST
        100 x write(0, 0, 1) = 0 ..
        """ + comesDown(99, 1) + """
        told(1, 1) = 99
        told(1, 0) = 0
        come(1, 0) = 110
        told(1, 1) = 0
        compare(0, 1) = 0
        """);
  }

  /** CHANGES come to HAND 1, the greatest STAMP first, and all WAIT. */
  private static String comesDown(int from, int to) {
    StringBuilder s = new StringBuilder();
    for (int c = from; c >= to; c--) s.append("come(1, ").append(c).append(") = 10\n");
    return s.toString();
  }

  private void meetRefused() {
    rows.of(16, "BAD: a HAND that is none", """
        book 6: LAST
        write(0, 0, 1) = 0
        meet(MIN, 0, 1) = BAD
        meet(-1, 0, 1) = BAD
        meet(6, 0, 1) = BAD
        meet(MAX, 0, 1) = BAD
        meet(0, MIN, 1) = BAD
        meet(0, -1, 1) = BAD
        meet(0, 6, 1) = BAD
        meet(0, MAX, 1) = BAD
        meet(0, 5, 1) = 1
        meet(5, 0, 1) = 0
        """);
    rows.of(16, "BAD: n below 0", """
        book 2: LAST
        write(0, 0, 1) = 0
        meet(0, 1, MIN) = BAD
        meet(0, 1, -2) = BAD
        meet(0, 1, -1) = BAD
        meet(0, 1, 0) = 0 !
        """);
    rows.of(16, "BAD: twice the same HAND", """
        book 2: LAST
        write(0, 0, 1) = 0
        meet(0, 0, 1) = BAD
        meet(0, 0, 0) = BAD
        meet(1, 1, 1) = BAD
        """);
  }

  private void meetHowMany() {
    rows.of(16, "n at most: one less, as many, one more than there are", """
        book 4: LAST
        3 x write(0, 0, 1) = 0 ..
        meet(0, 1, 2) = 2
        told(1, 0) = 2
        meet(0, 2, 3) = 3
        told(2, 0) = 3
        meet(0, 3, 4) = 3
        told(3, 0) = 3
        meet(0, 1, MAX) = 1
        meet(0, 1, MAX) = 0 !
        """);
    rows.of(16, "none: a HAND without CHANGES has nothing to come", """
        book 2: LAST
        meet(0, 1, 9) = 0 !
        meet(1, 0, MAX) = 0 !
        """);
    rows.of(16, "all that there may be come at once", """
        book 2: LAST
        400 x write(0, 0, 1) = 0 ..
        meet(0, 1, 399) = 399
        meet(0, 1, 399) = 1
        told(1, 0) = 400
        """);
    rows.of(16, "400 and more", """
        book 2: LAST
        400 x write(0, 0, 1) = 0 ..
        meet(0, 1, 401) = 400
        told(1, 0) = 400
        """);
    rows.of(16, "what WAITS with the one does not come to the other", """
        book 3: LAST
        2 x write(0, 0, 1) = 0 ..
        come(1, 1) = 10
        meet(1, 2, 9) = 0 !
        told(1, 1) = 1
        """);
    rows.of(16, "what the other one has alone stays with it", """
        book 2: LAST
        write(0, 0, 1) = 0
        write(1, 0, 2) = 1
        meet(0, 1, 9) = 1
        has(0, 1) = 0
        told(0, 0) = 1
        told(1, 0) = 2
        """);
  }

  private void meetInWhichOrder() {
    rows.of(16, "each time that with the least STAMP: the lesser COUNT first", """
        book 3: LAST
        2 x write(0, 0, 1) = 0 ..
        write(1, 0, 1) = 2
        meet(1, 0, 9) = 1
        meet(0, 2, 1) = 1
        has(2, 0) = 2
        meet(0, 2, 1) = 1
        has(2, 2) = 2
        has(2, 1) = 0
        meet(0, 2, 1) = 1
        has(2, 1) = 2
        """);
    rows.of(16, "each time that with the least STAMP: of like COUNTS the lesser HAND, not the lesser number", """
        book 6: LAST
        write(4, 0, 1) = 0
        write(3, 0, 1) = 1
        write(5, 0, 1) = 2
        meet(3, 5, 9) = 1
        meet(4, 5, 9) = 1
        meet(5, 0, 1) = 1
        has(0, 1) = 2
        meet(5, 0, 1) = 1
        has(0, 0) = 2
        has(0, 2) = 0
        """);
  }

  private void meetAsideOfThoseThatWaited() {
    rows.of(16, "those that WAITED and were TAKEN meanwhile aside", """
        book 2: LAST
        4 x write(0, 0, 1) = 0 ..
        come(1, 1) = 10
        come(1, 3) = 10
        meet(0, 1, 9) = 2
        told(1, 0) = 4
        told(1, 1) = 0
        """);
    rows.of(16, "those aside do not count for n", """
        book 2: LAST
        4 x write(0, 0, 1) = 0 ..
        come(1, 1) = 10
        come(1, 3) = 10
        meet(0, 1, 1) = 1
        told(1, 0) = 2
        meet(0, 1, 1) = 1
        told(1, 0) = 4
        """);
    rows.of(16, "one that WAITED and that the giver has not is TAKEN too", """
        book 3: LAST
        write(0, 0, 1) = 0
        meet(0, 1, 9) = 1
        write(1, 0, 1) = 1
        come(2, 1) = 10
        meet(0, 2, 9) = 1
        told(2, 0) = 2
        has(2, 1) = 2
        """);
    rows.of(16, "one that WAITS for what the giver has not goes on waiting", """
        book 3: LAST
        write(0, 0, 1) = 0
        2 x write(1, 0, 1) = 1 ..
        come(2, 2) = 10
        meet(0, 2, 9) = 1
        has(2, 2) = 1
        told(2, 1) = 1
        """);
  }

  private void loseCall() {
    rows.of(17, "BAD: a HAND that is none", """
        book 6: LAST
        write(0, 0, 1) = 0
        write(5, 0, 1) = 1
        lose(MIN) = BAD
        lose(-1) = BAD
        lose(6) = BAD
        lose(MAX) = BAD
        lose(0) = 1
        lose(5) = 1
        """);
    rows.of(17, "how many CHANGES it had: what WAITS is not counted, and is lost", """
        book 2: LAST
        3 x write(0, 0, 1) = 0 ..
        come(1, 0) = 11
        come(1, 2) = 10
        lose(1) = 1
        told(1, 0) = 0
        told(1, 1) = 0
        has(1, 2) = 0
        come(1, 0) = 11
        come(1, 1) = 11
        told(1, 0) = 2
        lose(1) = 2
        lose(1) = 0 !
        """);
    rows.of(17, "a HAND without CHANGES loses none", """
        book 1: LAST
        lose(0) = 0 !
        write(0, 0, 1) = 0
        """);
    rows.of(17, "400 of them", """
        book 1: LAST
        400 x write(0, 0, 1) = 0 ..
        lose(0) = 400
        told(0, 0) = 0
        told(0, 4) = 400
        """);
    rows.of(17, "it KEEPS all PAGES then, the first and the last; other HANDS do as before", """
        book 2: LAST LAST LAST LAST LAST LAST LAST LAST LAST LAST
        keep(0, 0, false) = 1
        keep(0, 9, false) = 1
        keep(1, 0, false) = 1
        lose(0) = 0
        keep(0, 0, true) = 1
        keep(0, 9, true) = 1
        keep(1, 0, true) = 0
        """);
    rows.of(17, "LEAVES stay, and what asked() tells", """
        book 1: LAST
        leaves(0, 2) = 2
        write(0, 0, 42) = 0
        value(0, 0) = 0
        save(0, 1) = 1
        lose(0) = 1
        asked() = 42
        leaf(0, 0) = NOTHING
        leaf(0, 1) = 1
        asked() = 42
        leaf(0, 2) = BEYOND
        """);
    rows.of(17, "CHANGES stay, other HANDS lose nothing", """
        book 3: LAST
        3 x write(0, 0, 1) = 0 ..
        meet(0, 1, 9) = 3
        come(2, 2) = 10
        lose(0) = 3
        count(2) = 3
        told(1, 0) = 3
        told(2, 1) = 1
        change(2, 0) = 0
        change(2, 3) = 2
        value(1, 0) = 2
        value(0, 0) = NONE
        """);
    rows.of(17, "its COPIES are those of none", """
        book 1: LAST TALLY BAG MANY PURSE FLAG CALM
        write(0, 0, 1) = 0
        add(0, 1, 1) = 1
        put(0, 2, 1) = 2
        write(0, 3, 1) = 3
        add(0, 4, 1) = 4
        raise(0, 5, true) = 5
        raise(0, 6, true) = 6
        lose(0) = 7
        value(0, 0) = NONE
        mean(0, 1) = NOUGHT
        often(0, 2, 1) = 0
        heads(0, 3) = 0
        sum(0, 4) = 0
        up(0, 5) = 0
        up(0, 6) = 0
        """);
  }

  private void loseTillItHasAllAgain() {
    rows.of(17, "till it has all of its own again it makes none (STATE): by come()", """
        book 2: LAST
        3 x write(0, 0, 1) = 0 ..
        lose(0) = 3
        write(0, 0, 1) = STATE
        come(0, 2) = 10
        write(0, 0, 1) = STATE
        come(0, 0) = 11
        write(0, 0, 1) = STATE
        come(0, 1) = 12
        write(0, 0, 1) = 3
        change(3, 2) = 4
        change(3, 3) = 3
        """);
    rows.of(17, "till it has all of its own again it makes none (STATE): by meet()", """
        book 2: LAST
        2 x write(0, 0, 1) = 0 ..
        meet(0, 1, 9) = 2
        write(1, 0, 1) = 2
        lose(0) = 2
        meet(1, 0, 1) = 1
        write(0, 0, 1) = STATE
        meet(1, 0, 1) = 1
        write(0, 0, 1) = 3
        change(3, 2) = 3
        """);
    rows.of(17, "others' CHANGES are not missed: it makes one with its own alone", """
        book 2: LAST
        write(1, 0, 1) = 0
        write(0, 0, 1) = 1
        meet(1, 0, 9) = 1
        lose(0) = 2
        come(0, 1) = 11
        write(0, 0, 1) = 2
        change(2, 2) = 2
        knows(2, 0) = 0
        """);
    rows.of(17, "a HAND that made none makes one at once", """
        book 2: LAST
        write(0, 0, 1) = 0
        meet(0, 1, 9) = 1
        lose(1) = 1
        write(1, 0, 1) = 1
        """);
    rows.of(17, "STATE for all calls that make one, ahead of NOTHING, UNLIKE, BEYOND", """
        book 2: LAST TALLY BAG PURSE FLAG
        write(0, 0, 1) = 0
        lose(0) = 1
        write(0, 0, 1) = STATE
        write(0, 1, 1) = STATE
        add(0, 1, 1) = STATE
        add(0, 3, -1) = STATE
        put(0, 2, 1) = STATE
        take(0, 2, 1) = STATE
        give(0, 3, 1, 1) = STATE
        spend(0, 3, 1) = STATE
        raise(0, 4, true) = STATE
        keep(0, 0, false) = 1
        write(0, 0, 1) = STATE
        finding() = 0
        """);
    rows.of(17, "it is asked as before: STATE is for making alone", """
        book 1: LAST TALLY
        write(0, 0, 1) = 0
        lose(0) = 1
        value(0, 0) = NONE
        sum(0, 1) = 0
        leaves(0, 1) = 1
        lose(0) = 0
        """);
    rows.of(17, "all lost by all: nothing comes by meet(), all by come()", """
        book 2: LAST
        2 x write(0, 0, 1) = 0 ..
        meet(0, 1, 9) = 2
        lose(0) = 2
        lose(1) = 2
        meet(0, 1, 9) = 0
        meet(1, 0, 9) = 0
        come(0, 0) = 11
        come(0, 1) = 11
        write(0, 0, 1) = 2
        """);
  }

  private void toldCall() {
    rows.of(18, "BAD: a HAND that is none", """
        book 6: LAST
        told(MIN, 0) = BAD
        told(-1, 0) = BAD
        told(0, 0) = 0 !
        told(5, 0) = 0 !
        told(6, 0) = BAD
        told(MAX, 0) = BAD
        """);
    rows.of(18, "BAD: what is not 0 to 4", """
        book 2: LAST
        4 x write(0, 0, 1) = 0 ..
        come(1, 0) = 11
        write(1, 0, 1) = 4
        come(1, 1) = 11
        come(1, 3) = 10
        told(1, MIN) = BAD
        told(1, -1) = BAD
        told(1, 0) = 3 !
        told(1, 1) = 1 !
        told(1, 2) = 2 !
        told(1, 3) = 1 !
        told(1, 4) = 1 !
        told(1, 5) = BAD
        told(1, MAX) = BAD
        """);
    rows.of(18, "2 the greatest COUNT that it has (0): not of what WAITS, nor of what is lost", """
        book 2: LAST
        told(1, 2) = 0
        3 x write(0, 0, 1) = 0 ..
        come(1, 2) = 10
        told(1, 2) = 0
        come(1, 0) = 11
        told(1, 2) = 1
        come(1, 1) = 12
        told(1, 2) = 3
        lose(1) = 3
        told(1, 2) = 0
        come(1, 0) = 11
        told(1, 2) = 1
        """);
    rows.of(18, "2 the greatest COUNT, though one with a lesser COUNT came last", """
        book 3: LAST
        2 x write(0, 0, 1) = 0 ..
        write(1, 0, 1) = 2
        meet(0, 2, 9) = 2
        meet(1, 2, 9) = 1
        told(2, 2) = 2
        """);
    rows.of(18, "3 how many of its own it has, 4 how many it made ever", """
        book 2: LAST
        2 x write(0, 0, 1) = 0 ..
        meet(0, 1, 9) = 2
        told(1, 3) = 0
        told(1, 4) = 0
        lose(0) = 2
        told(0, 3) = 0
        told(0, 4) = 2
        come(0, 1) = 10
        told(0, 3) = 0
        come(0, 0) = 12
        told(0, 3) = 2
        told(0, 4) = 2
        """);
  }

  private void hasCall() {
    rows.of(19, "BAD: a HAND, a CHANGE that is none", """
        book 6: LAST
        has(0, 0) = BAD
        write(5, 0, 1) = 0
        has(MIN, 0) = BAD
        has(-1, 0) = BAD
        has(6, 0) = BAD
        has(MAX, 0) = BAD
        has(5, MIN) = BAD
        has(5, -1) = BAD
        has(5, 1) = BAD
        has(5, MAX) = BAD
        has(5, 0) = 2 !
        has(0, 0) = 0 !
        """);
    rows.of(19, "2 it has, 1 it WAITS there, 0", """
        book 3: LAST
        3 x write(0, 0, 1) = 0 ..
        come(1, 0) = 11
        come(1, 2) = 10
        has(1, 0) = 2 !
        has(1, 1) = 0 !
        has(1, 2) = 1 !
        has(2, 2) = 0
        come(1, 1) = 12
        has(1, 2) = 2
        lose(1) = 3
        has(1, 0) = 0
        """);
    rows.of(19, "the last CHANGE of all, and the first that is not", """
        book 2: LAST
        400 x write(0, 0, 1) = 0 ..
        has(0, 399) = 2
        has(1, 399) = 0
        come(1, 399) = 10
        has(1, 399) = 1
        has(0, 400) = BAD
        """);
  }

  private void compareCall() {
    rows.of(20, "BAD: a HAND that is none", """
        book 6: LAST
        compare(MIN, 0) = BAD
        compare(-1, 0) = BAD
        compare(6, 0) = BAD
        compare(MAX, 0) = BAD
        compare(0, MIN) = BAD
        compare(0, -1) = BAD
        compare(0, 6) = BAD
        compare(0, MAX) = BAD
        compare(5, 0) = 0 !
        compare(0, 5) = 0 !
        """);
    rows.of(20, "0 the same: none and none, one and the same HAND", """
        book 2: LAST
        compare(0, 1) = 0
        write(0, 0, 1) = 0
        compare(0, 0) = 0
        compare(1, 1) = 0
        """);
    rows.of(20, "1 all of the first one's are the other's, 2 the other way round, 3 neither", """
        book 2: LAST
        write(0, 0, 1) = 0
        compare(0, 1) = 2 !
        compare(1, 0) = 1 !
        write(1, 0, 1) = 1
        compare(0, 1) = 3 !
        compare(1, 0) = 3 !
        come(0, 1) = 11
        compare(0, 1) = 2
        compare(1, 0) = 1
        come(1, 0) = 11
        compare(0, 1) = 0
        compare(1, 0) = 0
        """);
    rows.of(20, "what WAITS is not had", """
        book 2: LAST
        2 x write(0, 0, 1) = 0 ..
        come(1, 1) = 10
        compare(1, 0) = 1
        lose(0) = 2
        compare(1, 0) = 0
        """);
    rows.of(20, "it is the CHANGES that are compared, not what the COPIES tell, KEEP, LEAVES", """
        book 2: BAG
        put(0, 0, 1) = 0
        take(0, 0, 1) = 1
        alike(0, 0, 1) = 1
        compare(0, 1) = 2
        meet(0, 1, 9) = 2
        keep(1, 0, false) = 1
        leaves(1, 3) = 3
        compare(0, 1) = 0
        """);
    rows.of(20, "neither, by the last HAND's alone", """
        book 6: LAST
        write(0, 0, 1) = 0
        write(5, 0, 1) = 1
        meet(0, 1, 9) = 1
        meet(5, 2, 9) = 1
        compare(1, 2) = 3
        meet(0, 2, 9) = 1
        compare(1, 2) = 1
        """);
  }
}
