import java.util.ArrayList;
import java.util.List;
import java.util.Map;

/**
 * Runs rows of calls, each with its due answer, on a new object. Rows are of these forms:
 * <pre>
 *   book 2: LAST TALLY            2 HANDS, 2 PAGES
 *   add(0, 1, 5) = 0              a call and the answer
 *   3 x add(0, 1, 5) = 1 ..       three times, the answer being one more each time
 *   add(0, 0, 5) = UNLIKE         FINDING is the answer, and UNLIKE is the finding
 *   told(0, 0) = 4 !              it changes nothing
 *   digest(0) = fold 1 0 64*2     the hash of these numbers
 *   # why
 * </pre>
 * Behind each row that is refused it looks, on objects made anew, whether the refused call changed anything but
 * finding(), findings(); an object never gets more calls than the document promises answers for.
 */
final class Rows {
  static final int MOST_CALLS = 512;
  static final int FINDING = -3;
  private static final Map<String, Integer> REFUSALS = Map.of("BAD", -1, "FULL", -2, "STATE", -4);
  private static final Map<String, Integer> FINDINGS =
      Map.of("NOTHING", 1, "BEYOND", 2, "UNLIKE", 3, "NOUGHT", 4, "SIZE", 5);
  private static final int NO_FINDING = 0;

  private final Dues dues;
  private String where;
  private ManyHands x;
  private List<Call> made;

  Rows(Dues dues) {
    this.dues = dues;
  }

  /** A sentence of the document, by its promise's number (0: the terms), and rows that would break with it. */
  void of(int promise, String sentence, String rows) {
    where = (promise == 0 ? "terms" : "promise " + promise) + ": " + sentence;
    x = new ManyHands();
    made = new ArrayList<>();
    for (String line : rows.split("\n")) {
      int comment = line.indexOf('#');
      String row = (comment < 0 ? line : line.substring(0, comment)).trim();
      if (row.startsWith("book ")) {
        book(row.substring(5));
      } else if (!row.isEmpty()) {
        times(row);
      }
    }
  }

  private void book(String text) {
    String[] parts = text.split(":");
    int hands = Integer.parseInt(parts[0].trim());
    for (int i = 0; i < hands; i++) row("hand()", Integer.toString(i), false);
    String kinds = parts.length < 2 ? "" : parts[1].trim();
    int page = 0;
    for (String kind : kinds.isEmpty() ? new String[0] : kinds.split(" +")) {
      row("page(" + kind + ")", Integer.toString(page++), false);
    }
  }

  private void times(String line) {
    int x = line.indexOf(" x ");
    int times = x < 0 ? 1 : Integer.parseInt(line.substring(0, x).trim());
    String row = x < 0 ? line : line.substring(x + 3);
    int is = row.indexOf(" = ");
    if (is < 0) throw new IllegalArgumentException("no answer: " + line);
    String call = row.substring(0, is).trim();
    String answer = row.substring(is + 3).trim();
    boolean still = answer.endsWith("!");
    if (still) answer = answer.substring(0, answer.length() - 1).trim();
    boolean rising = answer.endsWith("..");
    if (rising) answer = answer.substring(0, answer.length() - 2).trim();
    for (int i = 0; i < times; i++) {
      row(call, rising ? Long.toString(Long.parseLong(answer) + i) : answer, still);
    }
  }

  private void row(String text, String answer, boolean still) {
    Call call = new Call(text);
    boolean refused = REFUSALS.containsKey(answer) || FINDINGS.containsKey(answer);
    if (refused && !call.canBeRefused()) throw new IllegalArgumentException(text + " is never refused");
    int finding = FINDINGS.getOrDefault(answer, NO_FINDING);
    long want = numberOf(answer);
    dues.due(where + ": call " + (made.size() + 1) + ", " + text, call.on(x), want);
    if (refused || still) changedNothing(call, finding);
    made.add(call);
    dues.due(where + ": no more calls than are promised", made.size() <= MOST_CALLS);
  }

  private static long numberOf(String answer) {
    if (REFUSALS.containsKey(answer)) return REFUSALS.get(answer);
    if (FINDINGS.containsKey(answer)) return FINDING;
    switch (answer) {
      case "NONE": return -9;
      case "MAX": return Long.MAX_VALUE;
      case "MIN": return Long.MIN_VALUE;
      default: return answer.startsWith("fold ") ? fold(answer.substring(5)) : Long.parseLong(answer);
    }
  }

  private static long fold(String numbers) {
    long h = 17;
    for (String word : numbers.trim().split(" +")) {
      int star = word.indexOf('*');
      int times = star < 0 ? 1 : Integer.parseInt(word.substring(0, star));
      long v = word.equals("NONE") ? -9 : Long.parseLong(word.substring(star + 1));
      for (int i = 0; i < times; i++) h = 31 * h + v;
    }
    return h;
  }

  private void changedNothing(Call call, int finding) {
    List<Call> with = new ArrayList<>(made);
    with.add(call);
    String told = where + ": behind call " + with.size() + ", " + call.text + ": ";
    dueFindings(told, with, finding);
    List<Call> looks = looksAt(after(made));
    int room = MOST_CALLS - with.size();
    for (int from = 0; from < looks.size() && room > 0; from += room) {
      ManyHands a = after(made);
      ManyHands b = after(with);
      for (Call look : looks.subList(from, Math.min(from + room, looks.size()))) {
        dues.due(told + look.text, look.on(b), look.on(a));
      }
    }
  }

  private void dueFindings(String told, List<Call> with, int finding) {
    ManyHands a = after(made);
    ManyHands b = after(with);
    int before = a.finding();
    dues.due(told + "finding()", b.finding(), finding == NO_FINDING ? before : finding);
    for (int f = 1; f <= 5; f++) {
      dues.due(told + "findings(" + f + ")", b.findings(f), a.findings(f) + (f == finding ? 1 : 0));
    }
  }

  private static ManyHands after(List<Call> calls) {
    ManyHands x = new ManyHands();
    for (Call call : calls) call.on(x);
    return x;
  }

  /** All that can be asked of an object, as far as its numbers are few, and then what it can be made to do. */
  private static List<Call> looksAt(ManyHands x) {
    int hands = x.count(0);
    int pages = x.count(1);
    int[] changes = some(x.count(2));
    List<Call> all = new ArrayList<>();
    for (int what = 0; what <= 2; what++) look(all, "count", what);
    look(all, "asked");
    for (int h = 0; h < hands; h++) {
      look(all, "digest", h);
      for (int what = 0; what <= 4; what++) look(all, "told", h, what);
      for (int o = 0; o < hands; o++) look(all, "compare", h, o);
      for (int c : changes) look(all, "has", h, c);
    }
    for (int c : changes) {
      for (int what = 0; what <= 4; what++) look(all, "change", c, what);
      for (int other : changes) look(all, "knows", c, other);
    }
    for (int p = 0; p < pages; p++) {
      for (int h = 1; h < hands; h++) look(all, "alike", p, 0, h);
    }
    doingsOf(all, hands, pages);
    return all;
  }

  private static void doingsOf(List<Call> all, int hands, int pages) {
    for (int h = 0; h < hands; h++) {
      for (int i = 0; i <= 16; i += i == 3 ? 12 : 1) {
        look(all, "leaf", h, i);
        look(all, "asked");
      }
    }
    for (int h = 0; h < hands; h++) {
      for (int p = 0; p < pages; p++) {
        all.add(new Call("keep(" + h + ", " + p + ", true)"));
        look(all, "write", h, p, 1);
        look(all, "add", h, p, 1);
        look(all, "put", h, p, 1);
        all.add(new Call("raise(" + h + ", " + p + ", true)"));
        look(all, "spend", h, p, 1);
        look(all, "take", h, p, 1);
      }
    }
    all.add(new Call("page(LAST)"));
    all.add(new Call("hand()"));
  }

  private static int[] some(int changes) {
    if (changes > 8) return new int[] {0, 1, changes - 2, changes - 1};
    int[] all = new int[changes];
    for (int i = 0; i < changes; i++) all[i] = i;
    return all;
  }

  private static void look(List<Call> all, String name, int... numbers) {
    StringBuilder s = new StringBuilder(name).append('(');
    for (int i = 0; i < numbers.length; i++) s.append(i == 0 ? "" : ", ").append(numbers[i]);
    all.add(new Call(s.append(')').toString()));
  }
}
