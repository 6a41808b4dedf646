/** Counts answers that are not the ones that are due, and prints each of them. */
final class Dues {
  private final String name;
  private int asked;
  private int wrong;

  Dues(String name) {
    this.name = name;
  }

  void due(String call, long got, long want) {
    asked++;
    if (got != want) {
      wrong++;
      System.out.println(name + ": " + call + " answered " + got + ", due is " + want);
    }
  }

  void due(String call, boolean so) {
    due(call, so ? 1 : 0, 1);
  }

  /** Ends the test: exit code 1 if an answer was wrong. */
  void end() {
    System.out.println(name + ": " + asked + " answers, " + wrong + " not as due");
    if (wrong != 0 || asked == 0) {
      System.exit(1);
    }
  }
}
