/**
 * Refused is the first that fits of BAD, FULL, STATE, and of the findings NOTHING, UNLIKE, BEYOND (NOUGHT), in this
 * order: each call with every set of them that can fit at once, and with each argument that is BAD.
 */
public final class RefusalOrderTest {
  private static final int FULL = 1, STATE = 2, NOTHING = 4, UNLIKE = 8, BEYOND = 16, ALL = 31;
  /** HAND 0 asks, HAND 1 fills the book. */
  private static final String PAGES = "LAST TALLY BAG MANY PURSE FLAG CALM";
  private static final int LAST_PAGE = 0, TALLY_PAGE = 1, BAG_PAGE = 2, MANY_PAGE = 3, PURSE_PAGE = 4, FLAG_PAGE = 5;
  private static final int PAGE_COUNT = 7, HAND_COUNT = 2;

  private final Dues dues = new Dues("RefusalOrderTest");
  private final Rows rows = new Rows(dues);

  public static void main(String[] args) {
    RefusalOrderTest t = new RefusalOrderTest();
    t.making();
    t.asking();
    t.dues.end();
  }

  private void making() {
    make(6, LAST_PAGE, "write(H, P, 1)", "");
    make(7, TALLY_PAGE, "add(H, P, 1)", "");
    make(7, PURSE_PAGE, "add(H, P, 1)", "add(H, P, -1)");
    make(7, PURSE_PAGE, "add(H, P, 1)", "add(H, P, 1000000001)");
    make(8, BAG_PAGE, "put(H, P, 1)", "", "put(0, P, -1)", "put(0, P, 64)");
    make(9, BAG_PAGE, "take(H, P, 1)", "take(H, P, 2)", "take(0, P, -1)", "take(0, P, 64)");
    make(10, PURSE_PAGE, "give(H, P, 1, 5)", "give(H, P, 1, 6)", "give(0, P, 0, 5)", "give(0, P, -1, 5)",
        "give(0, P, 2, 5)", "give(0, P, 1, -1)", "give(0, P, 1, 1000000001)");
    make(11, PURSE_PAGE, "spend(H, P, 5)", "spend(H, P, 6)", "spend(0, P, -1)", "spend(0, P, 1000000001)");
    make(12, FLAG_PAGE, "raise(H, P, true)", "");
  }

  /** fits is made if nothing fits; beyond is the same call so that BEYOND fits (empty: it has none). */
  private void make(int promise, int page, String fits, String beyond, String... bad) {
    for (int set = 0; set <= ALL; set++) {
      if ((set & BEYOND) != 0 && beyond.isEmpty()) continue;
      int on = (set & UNLIKE) != 0 ? unlike(page) : page;
      String start = state(set, on);
      String call = (set & BEYOND) != 0 ? beyond : fits;
      rows.of(promise, "the first that fits of " + told(set),
          start + at(call, 0, on) + " = " + answer(set) + "\n" + allBad(call, on, bad));
    }
  }

  private static String allBad(String call, int on, String... bad) {
    StringBuilder s = new StringBuilder();
    s.append(at(call, -1, on)).append(" = BAD\n");
    s.append(at(call, HAND_COUNT, on)).append(" = BAD\n");
    s.append(at(call, 0, -1)).append(" = BAD\n");
    s.append(at(call, 0, PAGE_COUNT)).append(" = BAD\n");
    for (String one : bad) s.append(at(one, 0, on)).append(" = BAD\n");
    return s.toString();
  }

  private static String at(String call, int hand, int page) {
    return call.replace("H", Integer.toString(hand)).replace("P", Integer.toString(page));
  }

  private static int unlike(int page) {
    return page == LAST_PAGE ? BAG_PAGE : LAST_PAGE;
  }

  /**
   * HAND 0 makes two CHANGES, which let it take and spend; what is to fit is then brought about. A finding, a
   * number that asked() tells, a LEAF, one that WAITS and a PAGE that is not kept stand there, so that a refusal that
   * wipes one of them out is seen.
   */
  private static String state(int set, int page) {
    StringBuilder s = new StringBuilder("book " + HAND_COUNT + ": " + PAGES + "\n");
    s.append("leaves(0, -1) = SIZE\n");
    s.append("put(0, " + BAG_PAGE + ", 1) = 0\n");
    s.append("add(0, " + PURSE_PAGE + ", 5) = 1\n");
    s.append("come(1, 1) = 10\n");
    s.append("keep(1, " + FLAG_PAGE + ", false) = 1\n");
    s.append("leaves(0, 2) = 2\n");
    s.append("rights(0, " + PURSE_PAGE + ", 0) = 1\n");
    s.append("save(0, 1) = 1\n");
    if ((set & FULL) != 0) s.append("398 x write(1, 0, 1) = 2 ..\n");
    if ((set & STATE) != 0) s.append("lose(0) = 2\n");
    if ((set & NOTHING) != 0) s.append("keep(0, " + page + ", false) = 1\n");
    return s.toString();
  }

  private static String answer(int set) {
    if ((set & FULL) != 0) return "FULL";
    if ((set & STATE) != 0) return "STATE";
    if ((set & NOTHING) != 0) return "NOTHING";
    if ((set & UNLIKE) != 0) return "UNLIKE";
    return (set & BEYOND) != 0 ? "BEYOND" : "2";
  }

  private static String told(int set) {
    String[] names = {"FULL", "STATE", "NOTHING", "UNLIKE", "BEYOND"};
    StringBuilder s = new StringBuilder();
    for (int i = 0; i < names.length; i++) {
      if ((set & 1 << i) != 0) s.append(s.length() == 0 ? "" : ", ").append(names[i]);
    }
    return s.length() == 0 ? "none" : s.toString();
  }

  private void asking() {
    ask(21, LAST_PAGE, "value(H, P)", "NONE", "", "");
    ask(22, TALLY_PAGE, "sum(H, P)", "0", "", "");
    ask(23, PURSE_PAGE, "mean(H, P)", "1", "", "");
    ask(23, TALLY_PAGE, "mean(H, P)", "NOUGHT", "mean(H, P)", "NOUGHT");
    ask(24, BAG_PAGE, "often(H, P, 1)", "1", "", "", "often(0, P, -1)", "often(0, P, 64)");
    ask(25, BAG_PAGE, "inside(H, P, 0)", "1", "inside(H, P, -1)", "BEYOND");
    ask(25, BAG_PAGE, "inside(H, P, 0)", "1", "inside(H, P, 1)", "BEYOND");
    ask(26, MANY_PAGE, "heads(H, P)", "0", "", "");
    ask(27, MANY_PAGE, "head(H, P, 0)", "BEYOND", "head(H, P, -1)", "BEYOND");
    ask(28, PURSE_PAGE, "rights(H, P, 0)", "1", "", "", "rights(0, P, -1)", "rights(0, P, 2)");
    ask(29, FLAG_PAGE, "up(H, P)", "0", "", "");
  }

  /** FULL and STATE refuse no question: with each of them the findings are as without (but a HAND that lost has none). */
  private void ask(int promise, int page, String fits, String answer, String beyond, String finding, String... bad) {
    for (int set = 0; set <= ALL; set++) {
      boolean isBeyond = (set & BEYOND) != 0;
      if ((set & STATE) != 0 || isBeyond && beyond.isEmpty()) continue;
      int on = (set & UNLIKE) != 0 ? unlike(page) : page;
      String call = isBeyond ? beyond : fits;
      String due = isBeyond ? finding : answer;
      if ((set & UNLIKE) != 0) due = "UNLIKE";
      if ((set & NOTHING) != 0) due = "NOTHING";
      rows.of(promise, "the first that fits of " + told(set & ~FULL),
          state(set, on) + at(call, 0, on) + " = " + due + "\n" + allBad(call, on, bad));
    }
  }
}
