/** Each promise of the document by its number: ordinary inputs, the edges that it names, and wrong inputs. */
public final class PromisesTest {
  private static final int BAD = -1, FULL = -2, FINDING = -3, STATE = -4, NONE = -9;
  private static final int LAST = 0, FIRST = 1, TALLY = 2, BAG = 3, MANY = 4, PURSE = 5, FLAG = 6, CALM = 7;
  private static final int NOTHING = 1, BEYOND = 2, UNLIKE = 3, NOUGHT = 4, SIZE = 5;
  private static final long BILLION = 1000000000L;

  private final Dues dues = new Dues("PromisesTest");
  private int promise;

  public static void main(String[] args) {
    PromisesTest t = new PromisesTest();
    t.handsAndPages();
    t.makingChanges();
    t.askingOfChanges();
    t.whatComes();
    t.askingOfCopies();
    t.leafRows();
    t.whatIsTold();
    t.dues.end();
  }

  private void handsAndPages() {
    newObject();
    handCall();
    pageCall();
    isCall();
    keepCall();
  }

  private void makingChanges() {
    writeCall();
    addCall();
    putCall();
    takeCall();
    giveCall();
    spendCall();
    raiseCall();
    fullAheadOfStateAheadOfFindings();
  }

  private void askingOfChanges() {
    changeCall();
    knowsCall();
  }

  private void whatComes() {
    comeCall();
    comeTakesWhatWaited();
    meetCall();
    meetAsideOfWhatWaited();
    loseCall();
    toldCall();
    hasCall();
    compareCall();
  }

  private void askingOfCopies() {
    valueCall();
    sumCall();
    meanCall();
    oftenCall();
    insideCall();
    headsCall();
    headCall();
    rightsCall();
    upCall();
    calmUp();
    alikeCall();
    unkeptAheadOfUnlike();
  }

  private void leafRows() {
    leavesCall();
    saveCall();
    tearCall();
    leafCall();
    copyCall();
  }

  private void whatIsTold() {
    askedCall();
    countCall();
    findingCall();
    findingsCall();
    digestCall();
    digestOfEachKind();
  }

  private void due(String call, long got, long want) {
    dues.due("promise " + promise + ": " + call, got, want);
  }

  private void dueFinding(ManyHands x, String call, long got, int finding) {
    due(call, got, FINDING);
    due("finding() behind " + call, x.finding(), finding);
  }

  private static ManyHands book(int hands, int... kinds) {
    ManyHands x = new ManyHands();
    for (int i = 0; i < hands; i++) x.hand();
    for (int kind : kinds) x.page(kind);
    return x;
  }

  private static long fold(long... vs) {
    long h = 17;
    for (long v : vs) h = 31 * h + v;
    return h;
  }

  private void newObject() {
    promise = 1;
    ManyHands x = new ManyHands();
    due("count(0)", x.count(0), 0);
    due("count(1)", x.count(1), 0);
    due("count(2)", x.count(2), 0);
    due("asked()", x.asked(), 0);
    due("finding()", x.finding(), 0);
    due("told(0, 0)", x.told(0, 0), BAD);
    due("is(0, 0)", x.is(0, 0), BAD);
    x.hand();
    due("another object's count(0)", new ManyHands().count(0), 0);
  }

  private void handCall() {
    promise = 2;
    ManyHands x = book(0, LAST);
    for (int i = 0; i < 5; i++) due("hand()", x.hand(), i);
    due("told(4, 0)", x.told(4, 0), 0);
    due("told(5, 0)", x.told(5, 0), BAD);
    x.write(0, 0, 1);
    due("hand() behind a CHANGE", x.hand(), STATE);
    x.lose(0);
    due("hand() though the CHANGE is lost", x.hand(), STATE);
    due("count(0)", x.count(0), 5);
    ManyHands y = book(6, LAST);
    due("hand() the seventh", y.hand(), FULL);
    y.write(0, 0, 1);
    due("hand() the seventh, behind a CHANGE", y.hand(), FULL);
    due("count(0)", y.count(0), 6);
    due("told(6, 0) beyond the last HAND", y.told(6, 0), BAD);
    due("digest(6)", y.digest(6), 0);
    y.write(5, 0, 2);
    due("meet(5, 0, 9) among six HANDS", y.meet(5, 0, 9), 1);
  }

  private void pageCall() {
    promise = 3;
    ManyHands x = book(1);
    due("page(-1)", x.page(-1), BAD);
    due("page(8)", x.page(8), BAD);
    for (int i = 0; i < 8; i++) due("page(" + i + ")", x.page(i), i);
    x.write(0, 0, 1);
    due("page(0) behind a CHANGE", x.page(0), 8);
    due("page(7)", x.page(7), 9);
    due("page(0) the eleventh", x.page(0), FULL);
    due("page(8), BAD ahead of FULL", x.page(8), BAD);
    due("count(1)", x.count(1), 10);
    due("is(10, 0) beyond the last PAGE", x.is(10, 0), BAD);
  }

  private void isCall() {
    promise = 4;
    ManyHands x = book(0, LAST, FIRST, TALLY, BAG, MANY, PURSE, FLAG, CALM);
    int[] above = {LAST, LAST, TALLY, BAG, LAST, TALLY, FLAG, FLAG};
    for (int p = 0; p < 8; p++) {
      for (int k = 0; k < 8; k++) due("is(" + p + ", " + k + ")", x.is(p, k), k == p || k == above[p] ? 1 : 0);
    }
    due("is(8, 0)", x.is(8, 0), BAD);
    due("is(-1, 0)", x.is(-1, 0), BAD);
    due("is(0, 8)", x.is(0, 8), BAD);
    due("is(0, -1)", x.is(0, -1), BAD);
  }

  private void keepCall() {
    promise = 5;
    ManyHands x = book(2, LAST, LAST);
    due("keep(0, 0, true) at first", x.keep(0, 0, true), 1);
    due("keep(0, 0, false)", x.keep(0, 0, false), 1);
    due("keep(0, 0, false) again", x.keep(0, 0, false), 0);
    due("keep(1, 0, true), another HAND", x.keep(1, 0, true), 1);
    due("keep(0, 1, true), another PAGE", x.keep(0, 1, true), 1);
    x.write(1, 0, 7);
    due("come(0, 0), changed all the same", x.come(0, 0), 11);
    dueFinding(x, "value(0, 0)", x.value(0, 0), NOTHING);
    due("keep(0, 0, true)", x.keep(0, 0, true), 0);
    due("value(0, 0)", x.value(0, 0), 0);
    due("keep(2, 0, true)", x.keep(2, 0, true), BAD);
    due("keep(-1, 0, true)", x.keep(-1, 0, true), BAD);
    due("keep(0, 2, true)", x.keep(0, 2, true), BAD);
    due("keep(0, -1, true)", x.keep(0, -1, true), BAD);
  }

  private void writeCall() {
    promise = 6;
    ManyHands x = book(1, LAST, FIRST, MANY, TALLY, BAG, FLAG, CALM, PURSE);
    due("write(0, 0, MIN)", x.write(0, 0, Long.MIN_VALUE), 0);
    due("write(0, 1, MAX)", x.write(0, 1, Long.MAX_VALUE), 1);
    due("write(0, 2, 3)", x.write(0, 2, 3), 2);
    due("value(0, 0)", x.value(0, 0), 0);
    due("asked()", x.asked(), Long.MIN_VALUE);
    for (int p = 3; p <= 7; p++) dueFinding(x, "write(0, " + p + ", 1)", x.write(0, p, 1), UNLIKE);
    x.keep(0, 0, false);
    dueFinding(x, "write(0, 0, 1) unkept", x.write(0, 0, 1), NOTHING);
    x.keep(0, 3, false);
    dueFinding(x, "write(0, 3, 1) unkept, unlike", x.write(0, 3, 1), NOTHING);
    due("write(1, 0, 1)", x.write(1, 0, 1), BAD);
    due("write(-1, 0, 1)", x.write(-1, 0, 1), BAD);
    due("write(0, 8, 1)", x.write(0, 8, 1), BAD);
    due("write(0, -1, 1)", x.write(0, -1, 1), BAD);
    due("count(2)", x.count(2), 3);
  }

  private void addCall() {
    promise = 7;
    ManyHands x = book(1, TALLY, PURSE, LAST);
    due("add(0, 0, MAX)", x.add(0, 0, Long.MAX_VALUE), 0);
    due("add(0, 0, 1)", x.add(0, 0, 1), 1);
    due("sum(0, 0)", x.sum(0, 0), 2);
    due("asked(), wrapped", x.asked(), Long.MIN_VALUE);
    due("add(0, 1, 0)", x.add(0, 1, 0), 2);
    due("add(0, 1, 1000000000)", x.add(0, 1, BILLION), 3);
    dueFinding(x, "add(0, 1, -1)", x.add(0, 1, -1), BEYOND);
    dueFinding(x, "add(0, 1, 1000000001)", x.add(0, 1, BILLION + 1), BEYOND);
    dueFinding(x, "add(0, 2, 1)", x.add(0, 2, 1), UNLIKE);
    x.keep(0, 1, false);
    dueFinding(x, "add(0, 1, -1) unkept", x.add(0, 1, -1), NOTHING);
    due("add(1, 0, 1)", x.add(1, 0, 1), BAD);
    due("add(0, 3, 1)", x.add(0, 3, 1), BAD);
    due("count(2)", x.count(2), 4);
  }

  private void putCall() {
    promise = 8;
    ManyHands x = book(1, BAG, TALLY);
    due("put(0, 0, 0)", x.put(0, 0, 0), 0);
    due("put(0, 0, 63)", x.put(0, 0, 63), 1);
    due("put(0, 0, 63)", x.put(0, 0, 63), 2);
    due("often(0, 0, 63)", x.often(0, 0, 63), 2);
    due("put(0, 0, 64)", x.put(0, 0, 64), BAD);
    due("put(0, 0, -1)", x.put(0, 0, -1), BAD);
    due("put(1, 0, 0)", x.put(1, 0, 0), BAD);
    due("put(0, 2, 0)", x.put(0, 2, 0), BAD);
    dueFinding(x, "put(0, 1, 0)", x.put(0, 1, 0), UNLIKE);
    due("put(0, 1, 64), BAD ahead of UNLIKE", x.put(0, 1, 64), BAD);
    x.keep(0, 0, false);
    dueFinding(x, "put(0, 0, 0) unkept", x.put(0, 0, 0), NOTHING);
    due("count(2)", x.count(2), 3);
  }

  private void takeCall() {
    promise = 9;
    ManyHands x = book(2, BAG, TALLY, BAG);
    dueFinding(x, "take(0, 0, 5) of an empty BAG", x.take(0, 0, 5), BEYOND);
    x.put(0, 0, 5);
    x.put(0, 0, 5);
    x.put(0, 0, 6);
    dueFinding(x, "take(1, 0, 5), not in that COPY", x.take(1, 0, 5), BEYOND);
    dueFinding(x, "take(0, 2, 5), another BAG", x.take(0, 2, 5), BEYOND);
    x.meet(0, 1, 9);
    x.put(0, 0, 5);
    due("take(1, 0, 5)", x.take(1, 0, 5), 4);
    due("often(1, 0, 5), all that it KNOWS are gone", x.often(1, 0, 5), 0);
    x.meet(1, 0, 9);
    due("often(0, 0, 5), the PUT that it does not KNOW stays", x.often(0, 0, 5), 1);
    due("often(0, 0, 6)", x.often(0, 0, 6), 1);
    due("take(0, 0, 64)", x.take(0, 0, 64), BAD);
    due("take(0, 0, -1)", x.take(0, 0, -1), BAD);
    due("take(2, 0, 5)", x.take(2, 0, 5), BAD);
    due("take(0, 3, 5)", x.take(0, 3, 5), BAD);
    dueFinding(x, "take(0, 1, 5)", x.take(0, 1, 5), UNLIKE);
    x.keep(0, 0, false);
    dueFinding(x, "take(0, 0, 7) unkept", x.take(0, 0, 7), NOTHING);
  }

  private void giveCall() {
    promise = 10;
    ManyHands x = book(3, PURSE, TALLY);
    x.add(0, 0, 10);
    due("give(0, 0, 1, 4)", x.give(0, 0, 1, 4), 1);
    dueFinding(x, "give(0, 0, 1, 7)", x.give(0, 0, 1, 7), BEYOND);
    due("give(0, 0, 2, 6)", x.give(0, 0, 2, 6), 2);
    due("give(0, 0, 2, 0)", x.give(0, 0, 2, 0), 3);
    dueFinding(x, "give(1, 0, 2, 1), not in its COPY yet", x.give(1, 0, 2, 1), BEYOND);
    x.meet(0, 1, 9);
    due("give(1, 0, 0, 4)", x.give(1, 0, 0, 4), 4);
    x.rights(1, 0, 0);
    due("RIGHTS of the receiver", x.asked(), 4);
    x.rights(1, 0, 1);
    due("RIGHTS of the giver", x.asked(), 0);
    due("give(0, 0, 0, 0)", x.give(0, 0, 0, 0), BAD);
    due("give(0, 0, 3, 0)", x.give(0, 0, 3, 0), BAD);
    due("give(0, 0, -1, 0)", x.give(0, 0, -1, 0), BAD);
    due("give(0, 0, 1, -1)", x.give(0, 0, 1, -1), BAD);
    due("give(0, 0, 1, 1000000001)", x.give(0, 0, 1, BILLION + 1), BAD);
    dueFinding(x, "give(0, 0, 1, 1000000000)", x.give(0, 0, 1, BILLION), BEYOND);
    due("give(3, 0, 1, 0)", x.give(3, 0, 1, 0), BAD);
    due("give(0, 2, 1, 0)", x.give(0, 2, 1, 0), BAD);
    dueFinding(x, "give(0, 1, 1, 0)", x.give(0, 1, 1, 0), UNLIKE);
    x.keep(0, 1, false);
    dueFinding(x, "give(0, 1, 1, 0) unkept", x.give(0, 1, 1, 0), NOTHING);
    x.lose(0);
    due("give(0, 1, 1, 0) with its own lost", x.give(0, 1, 1, 0), STATE);
    due("give(0, 1, 0, 0), BAD ahead of STATE", x.give(0, 1, 0, 0), BAD);
  }

  private void spendCall() {
    promise = 11;
    ManyHands x = book(2, PURSE, TALLY);
    due("spend(0, 0, 0)", x.spend(0, 0, 0), 0);
    dueFinding(x, "spend(0, 0, 1)", x.spend(0, 0, 1), BEYOND);
    x.add(0, 0, BILLION);
    due("spend(0, 0, 1000000000)", x.spend(0, 0, BILLION), 2);
    dueFinding(x, "spend(0, 0, 1)", x.spend(0, 0, 1), BEYOND);
    due("sum(0, 0)", x.sum(0, 0), 3);
    due("asked()", x.asked(), 0);
    due("spend(0, 0, -1)", x.spend(0, 0, -1), BAD);
    due("spend(0, 0, 1000000001)", x.spend(0, 0, BILLION + 1), BAD);
    due("spend(2, 0, 0)", x.spend(2, 0, 0), BAD);
    due("spend(0, 2, 0)", x.spend(0, 2, 0), BAD);
    dueFinding(x, "spend(0, 1, 1)", x.spend(0, 1, 1), UNLIKE);
    x.keep(0, 0, false);
    dueFinding(x, "spend(0, 0, 1) unkept", x.spend(0, 0, 1), NOTHING);
    x.lose(0);
    due("spend(0, 0, 0) with its own lost", x.spend(0, 0, 0), STATE);
  }

  private void raiseCall() {
    promise = 12;
    ManyHands x = book(1, FLAG, CALM, LAST);
    due("raise(0, 0, true)", x.raise(0, 0, true), 0);
    due("up(0, 0)", x.up(0, 0), 1);
    due("raise(0, 0, false)", x.raise(0, 0, false), 1);
    due("up(0, 0)", x.up(0, 0), 0);
    due("raise(0, 1, true)", x.raise(0, 1, true), 2);
    due("up(0, 1)", x.up(0, 1), 1);
    dueFinding(x, "raise(0, 2, true)", x.raise(0, 2, true), UNLIKE);
    x.keep(0, 0, false);
    dueFinding(x, "raise(0, 0, true) unkept", x.raise(0, 0, true), NOTHING);
    due("raise(1, 0, true)", x.raise(1, 0, true), BAD);
    due("raise(0, 3, true)", x.raise(0, 3, true), BAD);
    due("count(2)", x.count(2), 3);
  }

  private void fullAheadOfStateAheadOfFindings() {
    ManyHands x = book(2, LAST, TALLY, BAG, PURSE, FLAG);
    promise = 6;
    for (int i = 0; i < 399; i++) due("write(0, 0, " + i + ")", x.write(0, 0, i), i);
    x.lose(0);
    due("write(0, 1, 1), STATE ahead of UNLIKE", x.write(0, 1, 1), STATE);
    due("finding()", x.finding(), 0);
    due("write(1, 0, 1), another HAND may", x.write(1, 0, 1), 399);
    due("write(0, 0, 1), FULL ahead of STATE", x.write(0, 0, 1), FULL);
    due("write(1, 1, 1), FULL ahead of UNLIKE", x.write(1, 1, 1), FULL);
    due("write(2, 0, 1), BAD ahead of FULL", x.write(2, 0, 1), BAD);
    promise = 7;
    due("add(1, 1, 1)", x.add(1, 1, 1), FULL);
    promise = 8;
    due("put(1, 2, 1)", x.put(1, 2, 1), FULL);
    due("put(1, 2, 64)", x.put(1, 2, 64), BAD);
    promise = 9;
    due("take(1, 2, 1)", x.take(1, 2, 1), FULL);
    promise = 10;
    due("give(1, 3, 0, 1)", x.give(1, 3, 0, 1), FULL);
    due("give(1, 3, 1, 1)", x.give(1, 3, 1, 1), BAD);
    promise = 11;
    due("spend(1, 3, 1)", x.spend(1, 3, 1), FULL);
    promise = 12;
    due("raise(1, 4, true)", x.raise(1, 4, true), FULL);
    due("count(2)", x.count(2), 400);
    due("finding()", x.finding(), 0);
    promise = 16;
    due("meet(0, 1, 9) of a HAND that lost all", x.meet(0, 1, 9), 0);
  }

  private void changeCall() {
    promise = 13;
    ManyHands x = book(2, LAST, TALLY);
    x.write(0, 0, 5);
    x.write(0, 0, 6);
    x.add(1, 1, 7);
    x.meet(0, 1, 9);
    x.add(1, 1, 8);
    due("change(3, 0)", x.change(3, 0), 1);
    due("change(3, 1)", x.change(3, 1), 1);
    due("change(3, 2), above all that its HAND had", x.change(3, 2), 3);
    due("change(3, 3)", x.change(3, 3), 3);
    due("change(3, 4)", x.change(3, 4), 0);
    due("change(2, 2), 1 with none", x.change(2, 2), 1);
    due("change(0, 3)", x.change(0, 3), 0);
    due("change(0, 4)", x.change(0, 4), 1);
    x.lose(0);
    due("change(0, 4), lost by one", x.change(0, 4), 0);
    due("change(4, 0)", x.change(4, 0), BAD);
    due("change(-1, 0)", x.change(-1, 0), BAD);
    due("change(0, 5)", x.change(0, 5), BAD);
    due("change(0, -1)", x.change(0, -1), BAD);
  }

  private void knowsCall() {
    promise = 14;
    ManyHands x = book(2, LAST);
    x.write(0, 0, 5);
    x.write(1, 0, 6);
    x.write(0, 0, 7);
    due("knows(2, 0)", x.knows(2, 0), 1);
    due("knows(0, 2)", x.knows(0, 2), 0);
    due("knows(2, 1)", x.knows(2, 1), 0);
    due("knows(2, 2), not itself", x.knows(2, 2), 0);
    x.meet(0, 1, 9);
    x.write(1, 0, 8);
    due("knows(3, 2)", x.knows(3, 2), 1);
    due("knows(1, 0), as it was made", x.knows(1, 0), 0);
    due("knows(4, 0)", x.knows(4, 0), BAD);
    due("knows(0, 4)", x.knows(0, 4), BAD);
    due("knows(-1, 0)", x.knows(-1, 0), BAD);
    due("knows(0, -1)", x.knows(0, -1), BAD);
  }

  private void comeCall() {
    promise = 15;
    ManyHands x = book(2, LAST);
    x.write(0, 0, 5);
    x.write(0, 0, 6);
    due("come(0, 0), it has it", x.come(0, 0), 2);
    due("come(1, 1), it WAITS", x.come(1, 1), 10);
    due("come(1, 1), it WAITS still", x.come(1, 1), 10);
    due("told(1, 1)", x.told(1, 1), 1);
    due("value(1, 0), what WAITS tells nothing", x.value(1, 0), NONE);
    due("come(1, 0)", x.come(1, 0), 12);
    due("come(1, 0) twice", x.come(1, 0), 2);
    due("come(1, 1) late", x.come(1, 1), 2);
    due("come(2, 0)", x.come(2, 0), BAD);
    due("come(-1, 0)", x.come(-1, 0), BAD);
    due("come(0, 2)", x.come(0, 2), BAD);
    due("come(0, -1)", x.come(0, -1), BAD);
  }

  private void comeTakesWhatWaited() {
    ManyHands x = book(4, LAST);
    x.write(0, 0, 1);
    x.meet(0, 1, 9);
    x.write(1, 0, 2);
    x.meet(1, 2, 9);
    x.write(2, 0, 3);
    x.write(2, 0, 4);
    due("come(3, 3)", x.come(3, 3), 10);
    due("come(3, 2)", x.come(3, 2), 10);
    due("come(3, 1)", x.come(3, 1), 10);
    due("told(3, 1)", x.told(3, 1), 3);
    due("come(3, 0), and all that WAITED", x.come(3, 0), 14);
    due("told(3, 1)", x.told(3, 1), 0);
    due("compare(2, 3)", x.compare(2, 3), 0);
  }

  private void meetCall() {
    promise = 16;
    ManyHands x = book(3, LAST);
    x.write(1, 0, 1);
    x.write(0, 0, 2);
    x.write(0, 0, 3);
    x.meet(1, 0, 9);
    due("meet(0, 2, 0)", x.meet(0, 2, 0), 0);
    due("meet(0, 2, 1)", x.meet(0, 2, 1), 1);
    due("has(2, 1), the least STAMP: COUNT 1 of HAND 0", x.has(2, 1), 2);
    due("meet(0, 2, 1)", x.meet(0, 2, 1), 1);
    due("has(2, 0), then COUNT 1 of HAND 1", x.has(2, 0), 2);
    due("has(2, 2)", x.has(2, 2), 0);
    due("meet(2, 0, 9), the other way round", x.meet(2, 0, 9), 0);
    due("meet(0, 2, MAX)", x.meet(0, 2, Integer.MAX_VALUE), 1);
    due("meet(0, 2, 9) again", x.meet(0, 2, 9), 0);
    due("meet(0, 2, -1)", x.meet(0, 2, -1), BAD);
    due("meet(0, 0, 1)", x.meet(0, 0, 1), BAD);
    due("meet(3, 0, 1)", x.meet(3, 0, 1), BAD);
    due("meet(0, 3, 1)", x.meet(0, 3, 1), BAD);
    due("meet(-1, 0, 1)", x.meet(-1, 0, 1), BAD);
  }

  private void meetAsideOfWhatWaited() {
    ManyHands x = book(3, LAST);
    x.write(0, 0, 1);
    x.meet(0, 1, 9);
    x.write(1, 0, 2);
    x.write(0, 0, 3);
    x.come(2, 1);
    due("meet(0, 2, 9), 0 and 2 came, 1 was TAKEN meanwhile", x.meet(0, 2, 9), 2);
    due("told(2, 0)", x.told(2, 0), 3);
    due("told(2, 1)", x.told(2, 1), 0);
  }

  private void loseCall() {
    promise = 17;
    ManyHands x = book(2, LAST, LAST);
    x.leaves(0, 1);
    x.save(0, 0);
    x.write(0, 0, 1);
    x.write(1, 0, 2);
    x.write(1, 0, 3);
    x.write(0, 0, 4);
    x.come(0, 2);
    x.keep(0, 1, false);
    due("told(0, 1)", x.told(0, 1), 1);
    due("lose(0)", x.lose(0), 2);
    due("told(0, 0)", x.told(0, 0), 0);
    due("told(0, 1)", x.told(0, 1), 0);
    due("told(0, 2)", x.told(0, 2), 0);
    due("told(0, 3)", x.told(0, 3), 0);
    due("told(0, 4)", x.told(0, 4), 2);
    due("keep(0, 1, true), all PAGES are kept", x.keep(0, 1, true), 1);
    due("leaf(0, 0), LEAVES stay", x.leaf(0, 0), 1);
    due("write(0, 0, 9)", x.write(0, 0, 9), STATE);
    due("come(0, 3)", x.come(0, 3), 10);
    due("write(0, 0, 9), its own WAITS", x.write(0, 0, 9), STATE);
    due("come(0, 0)", x.come(0, 0), 12);
    due("write(0, 0, 9)", x.write(0, 0, 9), 4);
    due("change(4, 2)", x.change(4, 2), 3);
    due("lose(0)", x.lose(0), 3);
    due("lose(0) again", x.lose(0), 0);
    due("lose(1), which made what it has", x.lose(1), 2);
    due("lose(2)", x.lose(2), BAD);
    due("lose(-1)", x.lose(-1), BAD);
    ManyHands y = book(2, LAST);
    due("lose(0) of none", y.lose(0), 0);
    due("write(0, 0, 1), it has all of its own", y.write(0, 0, 1), 0);
  }

  private void toldCall() {
    promise = 18;
    ManyHands x = book(2, LAST);
    due("told(0, 2) with none", x.told(0, 2), 0);
    x.write(0, 0, 1);
    x.write(0, 0, 2);
    x.write(0, 0, 3);
    x.come(1, 0);
    x.come(1, 2);
    x.write(1, 0, 4);
    due("told(1, 0)", x.told(1, 0), 2);
    due("told(1, 1)", x.told(1, 1), 1);
    due("told(1, 2), without what WAITS", x.told(1, 2), 2);
    due("told(1, 3)", x.told(1, 3), 1);
    due("told(1, 4)", x.told(1, 4), 1);
    x.lose(0);
    x.come(0, 0);
    due("told(0, 3)", x.told(0, 3), 1);
    due("told(0, 4)", x.told(0, 4), 3);
    due("told(0, 5)", x.told(0, 5), BAD);
    due("told(0, -1)", x.told(0, -1), BAD);
    due("told(2, 0)", x.told(2, 0), BAD);
    due("told(-1, 0)", x.told(-1, 0), BAD);
  }

  private void hasCall() {
    promise = 19;
    ManyHands x = book(2, LAST);
    x.write(0, 0, 1);
    x.write(0, 0, 2);
    due("has(0, 1)", x.has(0, 1), 2);
    due("has(1, 1)", x.has(1, 1), 0);
    x.come(1, 1);
    due("has(1, 1)", x.has(1, 1), 1);
    due("has(1, 0)", x.has(1, 0), 0);
    x.come(1, 0);
    due("has(1, 1)", x.has(1, 1), 2);
    due("has(1, 2)", x.has(1, 2), BAD);
    due("has(1, -1)", x.has(1, -1), BAD);
    due("has(2, 0)", x.has(2, 0), BAD);
    due("has(-1, 0)", x.has(-1, 0), BAD);
  }

  private void compareCall() {
    promise = 20;
    ManyHands x = book(2, LAST);
    due("compare(0, 1) with none", x.compare(0, 1), 0);
    x.write(0, 0, 1);
    due("compare(0, 1)", x.compare(0, 1), 2);
    due("compare(1, 0)", x.compare(1, 0), 1);
    x.write(1, 0, 1);
    due("compare(0, 1), as many but others", x.compare(0, 1), 3);
    x.meet(0, 1, 9);
    due("compare(0, 1)", x.compare(0, 1), 1);
    x.meet(1, 0, 9);
    due("compare(0, 1)", x.compare(0, 1), 0);
    due("compare(0, 0)", x.compare(0, 0), 0);
    due("compare(0, 2)", x.compare(0, 2), BAD);
    due("compare(2, 0)", x.compare(2, 0), BAD);
    due("compare(-1, 0)", x.compare(-1, 0), BAD);
  }

  private void valueCall() {
    promise = 21;
    ManyHands x = book(2, LAST, FIRST, MANY, TALLY);
    for (int p = 0; p < 3; p++) due("value(0, " + p + ") of none", x.value(0, p), NONE);
    for (int p = 0; p < 3; p++) {
      x.write(1, p, 10 + p);
      x.write(0, p, 20 + p);
    }
    x.meet(0, 1, 99);
    due("value(1, 0), of like COUNTS the greater HAND", x.value(1, 0), 0);
    due("asked()", x.asked(), 10);
    due("value(1, 1), the least STAMP", x.value(1, 1), 3);
    due("asked()", x.asked(), 21);
    due("value(1, 2)", x.value(1, 2), 4);
    due("asked()", x.asked(), 12);
    x.write(0, 0, 30);
    x.meet(0, 1, 99);
    due("value(1, 0), the greater COUNT", x.value(1, 0), 6);
    due("asked()", x.asked(), 30);
    dueFinding(x, "value(0, 3)", x.value(0, 3), UNLIKE);
    due("value(2, 0)", x.value(2, 0), BAD);
    due("value(0, 4)", x.value(0, 4), BAD);
    due("value(-1, 0)", x.value(-1, 0), BAD);
  }

  private void sumCall() {
    promise = 22;
    ManyHands x = book(2, TALLY, PURSE, LAST);
    due("sum(0, 0) of none", x.sum(0, 0), 0);
    due("asked()", x.asked(), 0);
    x.add(0, 0, 5);
    x.add(0, 0, -9);
    due("sum(0, 0)", x.sum(0, 0), 2);
    due("asked()", x.asked(), -4);
    x.add(0, 1, 10);
    x.give(0, 1, 1, 3);
    x.spend(0, 1, 2);
    due("sum(0, 1), GIVES change no sum but are many", x.sum(0, 1), 3);
    due("asked()", x.asked(), 8);
    due("sum(1, 0), another COPY", x.sum(1, 0), 0);
    dueFinding(x, "sum(0, 2)", x.sum(0, 2), UNLIKE);
    due("sum(2, 0)", x.sum(2, 0), BAD);
    due("sum(0, 3)", x.sum(0, 3), BAD);
  }

  private void meanCall() {
    promise = 23;
    ManyHands x = book(1, TALLY, PURSE, LAST);
    dueFinding(x, "mean(0, 0) of none", x.mean(0, 0), NOUGHT);
    x.add(0, 0, -5);
    x.add(0, 0, -2);
    due("mean(0, 0)", x.mean(0, 0), 1);
    due("asked(), cut", x.asked(), -3);
    x.add(0, 1, 7);
    x.spend(0, 1, 0);
    due("mean(0, 1)", x.mean(0, 1), 1);
    due("asked(), cut", x.asked(), 3);
    dueFinding(x, "mean(0, 2), UNLIKE ahead of NOUGHT", x.mean(0, 2), UNLIKE);
    due("mean(1, 0)", x.mean(1, 0), BAD);
    due("mean(0, 3)", x.mean(0, 3), BAD);
  }

  private void oftenCall() {
    promise = 24;
    ManyHands x = book(1, BAG, LAST);
    x.put(0, 0, 63);
    x.put(0, 0, 63);
    due("often(0, 0, 63)", x.often(0, 0, 63), 2);
    due("often(0, 0, 0)", x.often(0, 0, 0), 0);
    x.take(0, 0, 63);
    due("often(0, 0, 63)", x.often(0, 0, 63), 0);
    x.put(0, 0, 63);
    due("often(0, 0, 63), PUT again", x.often(0, 0, 63), 1);
    due("often(0, 0, 64)", x.often(0, 0, 64), BAD);
    due("often(0, 0, -1)", x.often(0, 0, -1), BAD);
    dueFinding(x, "often(0, 1, 0)", x.often(0, 1, 0), UNLIKE);
    due("often(0, 1, 64)", x.often(0, 1, 64), BAD);
    due("often(1, 0, 0)", x.often(1, 0, 0), BAD);
    due("often(0, 2, 0)", x.often(0, 2, 0), BAD);
  }

  private void insideCall() {
    promise = 25;
    ManyHands x = book(1, BAG, LAST);
    dueFinding(x, "inside(0, 0, 0) of an empty BAG", x.inside(0, 0, 0), BEYOND);
    x.put(0, 0, 40);
    x.put(0, 0, 3);
    x.put(0, 0, 3);
    due("inside(0, 0, 0)", x.inside(0, 0, 0), 3);
    due("inside(0, 0, 1), each x once", x.inside(0, 0, 1), 40);
    dueFinding(x, "inside(0, 0, 2)", x.inside(0, 0, 2), BEYOND);
    dueFinding(x, "inside(0, 0, -1)", x.inside(0, 0, -1), BEYOND);
    dueFinding(x, "inside(0, 0, NONE)", x.inside(0, 0, NONE), BEYOND);
    x.take(0, 0, 3);
    due("inside(0, 0, 0)", x.inside(0, 0, 0), 40);
    dueFinding(x, "inside(0, 1, -1), UNLIKE ahead of BEYOND", x.inside(0, 1, -1), UNLIKE);
    due("inside(1, 0, 0)", x.inside(1, 0, 0), BAD);
    due("inside(0, 2, 0)", x.inside(0, 2, 0), BAD);
  }

  private void headsCall() {
    promise = 26;
    ManyHands x = book(3, MANY, LAST, MANY);
    due("heads(0, 0) of none", x.heads(0, 0), 0);
    x.write(0, 0, 1);
    x.write(0, 0, 2);
    due("heads(0, 0)", x.heads(0, 0), 1);
    x.write(1, 0, 3);
    x.write(2, 0, 4);
    x.meet(0, 1, 9);
    x.meet(2, 1, 9);
    due("heads(1, 0)", x.heads(1, 0), 3);
    x.write(1, 2, 5);
    due("heads(1, 0), what another PAGE's CHANGE KNOWS stays", x.heads(1, 0), 3);
    x.write(1, 0, 6);
    due("heads(1, 0)", x.heads(1, 0), 1);
    dueFinding(x, "heads(0, 1)", x.heads(0, 1), UNLIKE);
    due("heads(3, 0)", x.heads(3, 0), BAD);
    due("heads(0, 3)", x.heads(0, 3), BAD);
  }

  private void headCall() {
    promise = 27;
    ManyHands x = book(3, MANY, LAST);
    x.write(2, 0, 7);
    x.write(1, 1, 0);
    x.write(1, 0, 8);
    x.write(0, 0, 9);
    x.meet(1, 0, 9);
    x.meet(2, 0, 9);
    due("head(0, 0, 0), COUNT 1 of HAND 0", x.head(0, 0, 0), 3);
    due("asked()", x.asked(), 9);
    due("head(0, 0, 1), COUNT 1 of HAND 2", x.head(0, 0, 1), 0);
    due("asked()", x.asked(), 7);
    due("head(0, 0, 2), COUNT 2 of HAND 1", x.head(0, 0, 2), 2);
    due("asked()", x.asked(), 8);
    dueFinding(x, "head(0, 0, 3)", x.head(0, 0, 3), BEYOND);
    dueFinding(x, "head(0, 0, -1)", x.head(0, 0, -1), BEYOND);
    due("asked() stays", x.asked(), 8);
    x.write(0, 0, 10);
    due("head(0, 0, 0), KNOWING all others", x.head(0, 0, 0), 4);
    due("head(2, 0, 0), in a COPY that lacks it", x.head(2, 0, 0), 0);
    dueFinding(x, "head(2, 0, 1)", x.head(2, 0, 1), BEYOND);
    dueFinding(x, "head(0, 1, 9), UNLIKE ahead of BEYOND", x.head(0, 1, 9), UNLIKE);
    due("head(3, 0, 0)", x.head(3, 0, 0), BAD);
    due("head(0, 2, 0)", x.head(0, 2, 0), BAD);
  }

  private void rightsCall() {
    promise = 28;
    ManyHands x = book(3, PURSE, TALLY);
    x.add(0, 0, 10);
    x.give(0, 0, 1, 4);
    x.spend(0, 0, 1);
    due("rights(0, 0, 0)", x.rights(0, 0, 0), 1);
    due("asked()", x.asked(), 5);
    due("rights(0, 0, 1)", x.rights(0, 0, 1), 1);
    due("asked()", x.asked(), 4);
    due("rights(0, 0, 2)", x.rights(0, 0, 2), 1);
    due("asked()", x.asked(), 0);
    due("rights(0, 0, 3)", x.rights(0, 0, 3), BAD);
    due("rights(0, 0, -1)", x.rights(0, 0, -1), BAD);
    due("rights(0, 1, 3), BAD ahead of UNLIKE", x.rights(0, 1, 3), BAD);
    dueFinding(x, "rights(0, 1, 0)", x.rights(0, 1, 0), UNLIKE);
    due("rights(3, 0, 0)", x.rights(3, 0, 0), BAD);
    due("rights(0, 2, 0)", x.rights(0, 2, 0), BAD);
  }

  private void upCall() {
    promise = 29;
    ManyHands x = book(2, FLAG, LAST);
    due("up(0, 0) of none", x.up(0, 0), 0);
    x.raise(0, 0, true);
    x.raise(1, 0, false);
    x.meet(1, 0, 9);
    due("up(0, 0), no DOWN KNOWS the UP", x.up(0, 0), 1);
    x.meet(0, 1, 9);
    x.raise(1, 0, false);
    due("up(1, 0)", x.up(1, 0), 0);
    due("up(0, 0), that DOWN has not come", x.up(0, 0), 1);
    x.meet(1, 0, 9);
    due("up(0, 0)", x.up(0, 0), 0);
    dueFinding(x, "up(0, 1)", x.up(0, 1), UNLIKE);
    due("up(2, 0)", x.up(2, 0), BAD);
    due("up(0, 2)", x.up(0, 2), BAD);
  }

  private void calmUp() {
    ManyHands x = book(2, CALM);
    due("up(0, 0) of none", x.up(0, 0), 0);
    x.raise(1, 0, false);
    due("up(1, 0), no UP", x.up(1, 0), 0);
    x.raise(0, 0, true);
    due("up(0, 0)", x.up(0, 0), 1);
    x.meet(1, 0, 9);
    due("up(0, 0), no UP KNOWS the DOWN", x.up(0, 0), 0);
    x.raise(0, 0, true);
    due("up(0, 0)", x.up(0, 0), 1);
  }

  private void alikeCall() {
    promise = 30;
    ManyHands x = book(2, BAG, LAST, TALLY, PURSE);
    due("alike(0, 0, 1) with none", x.alike(0, 0, 1), 1);
    x.put(0, 0, 1);
    due("alike(0, 0, 1)", x.alike(0, 0, 1), 0);
    due("alike(1, 0, 1), another PAGE", x.alike(1, 0, 1), 1);
    x.take(0, 0, 1);
    due("alike(0, 0, 1), other CHANGES that tell the same", x.alike(0, 0, 1), 1);
    x.keep(0, 0, false);
    due("alike(0, 0, 1), kept or not", x.alike(0, 0, 1), 1);
    x.write(0, 1, 5);
    x.write(1, 1, 5);
    due("alike(1, 0, 1), the CHANGE is told too", x.alike(1, 0, 1), 0);
    x.add(0, 2, -1);
    for (int i = 0; i < 32; i++) x.add(1, 2, i == 0 ? -2 : 0);
    due("alike(2, 0, 1), though 31 sum + many is the same", x.alike(2, 0, 1), 0);
    x.spend(0, 3, 0);
    x.add(1, 3, 0);
    due("alike(3, 0, 1)", x.alike(3, 0, 1), 1);
    due("alike(0, 0, 0)", x.alike(0, 0, 0), 1);
    due("alike(4, 0, 1)", x.alike(4, 0, 1), BAD);
    due("alike(-1, 0, 1)", x.alike(-1, 0, 1), BAD);
    due("alike(0, 2, 1)", x.alike(0, 2, 1), BAD);
    due("alike(0, 0, 2)", x.alike(0, 0, 2), BAD);
  }

  private void unkeptAheadOfUnlike() {
    ManyHands x = book(1, LAST, TALLY);
    x.keep(0, 0, false);
    x.keep(0, 1, false);
    promise = 21;
    dueFinding(x, "value(0, 1)", x.value(0, 1), NOTHING);
    promise = 22;
    dueFinding(x, "sum(0, 1)", x.sum(0, 1), NOTHING);
    promise = 23;
    dueFinding(x, "mean(0, 1)", x.mean(0, 1), NOTHING);
    promise = 24;
    dueFinding(x, "often(0, 0, 0)", x.often(0, 0, 0), NOTHING);
    promise = 25;
    dueFinding(x, "inside(0, 0, 0)", x.inside(0, 0, 0), NOTHING);
    promise = 26;
    dueFinding(x, "heads(0, 0)", x.heads(0, 0), NOTHING);
    promise = 27;
    dueFinding(x, "head(0, 0, 0)", x.head(0, 0, 0), NOTHING);
    promise = 28;
    dueFinding(x, "rights(0, 0, 0)", x.rights(0, 0, 0), NOTHING);
    promise = 29;
    dueFinding(x, "up(0, 0)", x.up(0, 0), NOTHING);
    promise = 39;
    due("findings(1)", x.findings(1), 9);
  }

  private void leavesCall() {
    promise = 31;
    ManyHands x = book(1);
    due("leaves(0, 16)", x.leaves(0, 16), 16);
    due("save(0, 15)", x.save(0, 15), 1);
    due("leaves(0, 17)", x.leaves(0, 17), BAD);
    dueFinding(x, "leaves(0, -1)", x.leaves(0, -1), SIZE);
    due("leaf(0, 15), refused changes nothing", x.leaf(0, 15), 1);
    due("leaves(0, 16) anew", x.leaves(0, 16), 16);
    dueFinding(x, "leaf(0, 15), all missing", x.leaf(0, 15), NOTHING);
    due("leaves(0, 0)", x.leaves(0, 0), 0);
    dueFinding(x, "leaf(0, 0)", x.leaf(0, 0), BEYOND);
    due("leaves(1, 1)", x.leaves(1, 1), BAD);
    due("leaves(1, -1), BAD ahead of SIZE", x.leaves(1, -1), BAD);
    due("leaves(-1, 1)", x.leaves(-1, 1), BAD);
  }

  private void saveCall() {
    promise = 32;
    ManyHands x = book(1, LAST);
    dueFinding(x, "save(0, 0) without LEAVES", x.save(0, 0), BEYOND);
    x.leaves(0, 2);
    x.write(0, 0, 42);
    x.value(0, 0);
    due("save(0, 1)", x.save(0, 1), 1);
    x.write(0, 0, 43);
    x.value(0, 0);
    x.leaf(0, 1);
    due("asked()", x.asked(), 42);
    dueFinding(x, "save(0, 2)", x.save(0, 2), BEYOND);
    dueFinding(x, "save(0, -1)", x.save(0, -1), BEYOND);
    due("save(1, 0)", x.save(1, 0), BAD);
    due("save(-1, 0)", x.save(-1, 0), BAD);
  }

  private void tearCall() {
    promise = 33;
    ManyHands x = book(1);
    x.leaves(0, 1);
    dueFinding(x, "tear(0, 0) of a missing one", x.tear(0, 0), NOTHING);
    x.save(0, 0);
    due("tear(0, 0)", x.tear(0, 0), 1);
    dueFinding(x, "leaf(0, 0)", x.leaf(0, 0), NOTHING);
    dueFinding(x, "tear(0, 1)", x.tear(0, 1), BEYOND);
    dueFinding(x, "tear(0, -1)", x.tear(0, -1), BEYOND);
    due("tear(1, 0)", x.tear(1, 0), BAD);
  }

  private void leafCall() {
    promise = 34;
    ManyHands x = book(1, TALLY);
    x.leaves(0, 2);
    x.add(0, 0, -8);
    x.sum(0, 0);
    x.save(0, 0);
    x.add(0, 0, 1);
    x.sum(0, 0);
    due("leaf(0, 0)", x.leaf(0, 0), 1);
    due("asked()", x.asked(), -8);
    dueFinding(x, "leaf(0, 1)", x.leaf(0, 1), NOTHING);
    dueFinding(x, "leaf(0, 2)", x.leaf(0, 2), BEYOND);
    dueFinding(x, "leaf(0, -1)", x.leaf(0, -1), BEYOND);
    due("leaf(1, 0)", x.leaf(1, 0), BAD);
    due("asked() stays", x.asked(), -8);
  }

  private void copyCall() {
    promise = 35;
    ManyHands x = book(2, LAST);
    x.leaves(0, 4);
    x.leaves(1, 2);
    for (int i = 0; i < 3; i++) {
      x.write(0, 0, 100 + i);
      x.value(0, 0);
      x.save(0, i);
    }
    due("copy(0, 0, 0, 1, 3), overlapping upwards", x.copy(0, 0, 0, 1, 3), 1);
    dueLeaves(x, 0, 100, 100, 101, 102);
    due("copy(0, 1, 0, 0, 3), overlapping downwards", x.copy(0, 1, 0, 0, 3), 1);
    dueLeaves(x, 0, 100, 101, 102, 102);
    x.tear(0, 2);
    due("copy(0, 1, 1, 0, 2), a missing one too", x.copy(0, 1, 1, 0, 2), 1);
    due("leaf(1, 0)", x.leaf(1, 0), 1);
    due("asked()", x.asked(), 101);
    dueFinding(x, "leaf(1, 1)", x.leaf(1, 1), NOTHING);
    due("copy(0, 4, 1, 2, 0), none at the ends", x.copy(0, 4, 1, 2, 0), 1);
    dueFinding(x, "copy(0, 5, 1, 0, 0)", x.copy(0, 5, 1, 0, 0), BEYOND);
    dueFinding(x, "copy(0, 0, 1, 3, 0)", x.copy(0, 0, 1, 3, 0), BEYOND);
    dueFinding(x, "copy(0, 0, 1, 0, 3)", x.copy(0, 0, 1, 0, 3), BEYOND);
    dueFinding(x, "copy(1, 0, 0, 0, 3)", x.copy(1, 0, 0, 0, 3), BEYOND);
    dueFinding(x, "copy(0, -1, 1, 0, 1)", x.copy(0, -1, 1, 0, 1), BEYOND);
    dueFinding(x, "copy(0, 0, 1, -1, 1)", x.copy(0, 0, 1, -1, 1), BEYOND);
    dueFinding(x, "copy(0, 0, 1, 0, -1)", x.copy(0, 0, 1, 0, -1), BEYOND);
    int most = Integer.MAX_VALUE;
    dueFinding(x, "copy(0, MAX, 1, 0, MAX)", x.copy(0, most, 1, 0, most), BEYOND);
    dueFinding(x, "copy(0, 1, 1, 1, MAX)", x.copy(0, 1, 1, 1, most), BEYOND);
    due("copy(2, 0, 1, 0, -1)", x.copy(2, 0, 1, 0, -1), BAD);
    due("copy(0, 0, 2, 0, 1)", x.copy(0, 0, 2, 0, 1), BAD);
  }

  private void dueLeaves(ManyHands x, int hand, long... want) {
    for (int i = 0; i < want.length; i++) {
      due("leaf(" + hand + ", " + i + ")", x.leaf(hand, i), 1);
      due("asked()", x.asked(), want[i]);
    }
  }

  private void askedCall() {
    promise = 36;
    ManyHands x = book(2, LAST, TALLY, MANY, PURSE);
    due("asked() before", x.asked(), 0);
    x.write(0, 0, 4);
    x.add(0, 1, 9);
    due("asked(), writing tells nothing", x.asked(), 0);
    x.value(0, 0);
    due("asked() of value()", x.asked(), 4);
    due("value(1, 0)", x.value(1, 0), NONE);
    due("asked(), NONE tells nothing", x.asked(), 4);
    x.sum(0, 1);
    due("asked() of sum()", x.asked(), 9);
    x.sum(1, 1);
    due("asked() of sum() of none", x.asked(), 0);
    x.mean(0, 1);
    due("asked() of mean()", x.asked(), 9);
    x.mean(1, 1);
    x.sum(0, 0);
    x.sum(9, 0);
    due("asked(), what is refused tells nothing", x.asked(), 9);
    x.write(0, 2, 6);
    x.head(0, 2, 0);
    due("asked() of head()", x.asked(), 6);
    x.add(0, 3, 2);
    x.rights(0, 3, 0);
    due("asked() of rights()", x.asked(), 2);
    x.heads(0, 2);
    x.digest(0);
    due("asked(), others tell nothing by it", x.asked(), 2);
  }

  private void countCall() {
    promise = 37;
    ManyHands x = book(2, LAST, LAST, LAST);
    x.write(0, 0, 1);
    x.lose(0);
    due("count(0)", x.count(0), 2);
    due("count(1)", x.count(1), 3);
    due("count(2), lost ones too", x.count(2), 1);
    due("count(3)", x.count(3), BAD);
    due("count(-1)", x.count(-1), BAD);
  }

  private void findingCall() {
    promise = 38;
    ManyHands x = book(1, LAST);
    due("finding() before any", x.finding(), 0);
    x.sum(0, 0);
    due("finding()", x.finding(), UNLIKE);
    x.sum(9, 0);
    due("finding(), BAD is none", x.finding(), UNLIKE);
    x.write(0, 0, 1);
    due("finding(), the latest one stays", x.finding(), UNLIKE);
    x.leaves(0, -1);
    due("finding()", x.finding(), SIZE);
  }

  private void findingsCall() {
    promise = 39;
    ManyHands x = book(1, LAST, TALLY);
    x.leaf(0, 0);
    x.leaf(0, 0);
    x.mean(0, 1);
    x.leaves(0, -1);
    x.up(0, 0);
    x.keep(0, 0, false);
    x.value(0, 0);
    due("findings(1)", x.findings(1), 1);
    due("findings(2)", x.findings(2), 2);
    due("findings(3)", x.findings(3), 1);
    due("findings(4)", x.findings(4), 1);
    due("findings(5)", x.findings(5), 1);
    due("findings(0)", x.findings(0), BAD);
    due("findings(6)", x.findings(6), BAD);
    due("findings(-1)", x.findings(-1), BAD);
  }

  private void digestCall() {
    promise = 40;
    ManyHands x = book(2, LAST);
    due("digest(2)", x.digest(2), 0);
    due("digest(-1)", x.digest(-1), 0);
    due("digest(0)", x.digest(0), fold(0, 0, 0, 0, 0, 0, 1, NONE, 0));
    x.write(0, 0, 5);
    x.write(0, 0, 6);
    x.come(1, 1);
    x.keep(1, 0, false);
    x.leaves(1, 3);
    x.value(0, 0);
    x.save(1, 1);
    due("digest(0)", x.digest(0), fold(2, 0, 2, 2, 2, 0, 1, 1, 6));
    due("digest(1)", x.digest(1), fold(0, 1, 0, 0, 0, 0, 0, NONE, 0, -1, 1, 6, -1));
  }

  private void digestOfEachKind() {
    ManyHands x = book(2, FIRST);
    x.write(0, 0, 5);
    x.write(0, 0, 6);
    due("digest(0) of a FIRST", x.digest(0), fold(2, 0, 2, 2, 2, FIRST, 1, 0, 5));
    x = book(2, TALLY);
    x.add(0, 0, 5);
    x.add(0, 0, 6);
    due("digest(0) of a TALLY", x.digest(0), fold(2, 0, 2, 2, 2, TALLY, 1, 11, 2));
    x = book(2, MANY);
    x.write(0, 0, 5);
    x.write(1, 0, 6);
    x.meet(1, 0, 9);
    due("digest(0) of a MANY", x.digest(0), fold(2, 0, 1, 1, 1, MANY, 1, 1, 6, 2, 0, 1));
    x = book(2, PURSE);
    x.add(0, 0, 5);
    x.give(0, 0, 1, 2);
    due("digest(0) of a PURSE", x.digest(0), fold(2, 0, 2, 2, 2, PURSE, 1, 5, 2, 3, 2, 0, 0, 0, 0));
    x = book(2, FLAG);
    x.raise(0, 0, true);
    x.raise(0, 0, false);
    due("digest(0) of a FLAG", x.digest(0), fold(2, 0, 2, 2, 2, FLAG, 1, 0, 1, 1));
    x = book(2, CALM);
    x.raise(0, 0, false);
    x.raise(0, 0, true);
    due("digest(0) of a CALM", x.digest(0), fold(2, 0, 2, 2, 2, CALM, 1, 1, 1, 1));
    x = book(2, BAG);
    x.put(0, 0, 0);
    x.put(0, 0, 63);
    x.put(0, 0, 63);
    long[] want = new long[5 + 2 + 64];
    long[] start = {3, 0, 3, 3, 3, BAG, 1, 1};
    System.arraycopy(start, 0, want, 0, start.length);
    want[want.length - 1] = 2;
    due("digest(0) of a BAG", x.digest(0), fold(want));
  }
}
