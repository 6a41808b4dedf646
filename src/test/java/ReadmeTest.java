import java.io.File;
import java.lang.reflect.Method;
import java.lang.reflect.Modifier;
import java.net.URL;
import java.net.URLClassLoader;
import java.nio.file.Files;
import java.nio.file.Path;
import java.util.ArrayList;
import java.util.List;
import java.util.regex.Matcher;
import java.util.regex.Pattern;
import javax.tools.ToolProvider;

/** What README.md says holds: its examples compile and answer as they say, and what it names is there. */
public final class ReadmeTest {
  private static final Path TESTS = Path.of("src/test/java");
  private static final Path OUT = Path.of("out/readme");
  private static final int KINDS = 8, UNLIKE = 3;
  private static final Pattern EXAMPLE = Pattern.compile("(?ms)^```java\n(.*?)^```$");
  /** A line of an example: perhaps a new name for the answer, the call, and the answer ahead of its explanation. */
  private static final Pattern LINE =
      Pattern.compile("(?:(?:int|long) (\\w+) = )?(book\\.(\\w+)\\(.*\\));(?: *// (-?\\d+|[A-Z]{3,})\\b.*)?");

  private final Dues dues = new Dues("ReadmeTest");
  private String text;

  public static void main(String[] args) throws Exception {
    ReadmeTest t = new ReadmeTest();
    t.text = Files.readString(Path.of("README.md"));
    t.examples();
    t.kinds();
    t.namesTests();
    t.namesCalls();
    t.namesFiles();
    t.dues.end();
  }

  private void examples() throws Exception {
    List<String> sources = new ArrayList<>();
    Matcher m = EXAMPLE.matcher(text);
    while (m.find()) sources.add(program("Example" + sources.size(), m.group(1)));
    dues.due("README.md has examples", !sources.isEmpty());
    for (int i = 0; i < sources.size(); i++) run("Example" + i, sources.get(i));
  }

  /** The example as a class whose answers() gives in turn what was answered and what is due. */
  private String program(String name, String example) {
    StringBuilder s = new StringBuilder("public final class ").append(name).append(" {\n");
    s.append("  public static java.util.List<Long> answers() {\n");
    s.append("    java.util.List<Long> all = new java.util.ArrayList<>();\n");
    int answers = 0;
    for (String line : example.split("\n")) {
      Matcher m = LINE.matcher(line);
      boolean call = m.matches();
      dues.due(name + ": '" + line + "' is read", call || line.equals("ManyHands book = new ManyHands();"));
      boolean answered = call && m.group(4) != null;
      dues.due(name + ": '" + line + "' tells its answer", answered || !line.startsWith("book."));
      if (!call || m.group(1) != null) s.append("    ").append(line.replaceAll(" *//.*", "")).append('\n');
      if (answered) {
        answers++;
        String due = Character.isLetter(m.group(4).charAt(0)) ? "ManyHands." + m.group(4) : m.group(4) + "L";
        s.append("    all.add((long) ").append(m.group(1) != null ? m.group(1) : m.group(2)).append(");\n");
        s.append("    all.add((long) ").append(due).append(");\n");
      }
    }
    dues.due(name + " tells answers", answers > 0);
    return s.append("    return all;\n  }\n}\n").toString();
  }

  private void run(String name, String source) throws Exception {
    Files.createDirectories(OUT);
    Path file = OUT.resolve(name + ".java");
    Files.writeString(file, source);
    int code = ToolProvider.getSystemJavaCompiler().run(
        null, null, null, "-cp", System.getProperty("java.class.path"), "-d", OUT.toString(), file.toString());
    dues.due(name + " compiles", code, 0);
    if (code != 0) return;
    try (URLClassLoader loader = new URLClassLoader(new URL[] {OUT.toUri().toURL()})) {
      List<?> all = (List<?>) loader.loadClass(name).getMethod("answers").invoke(null);
      for (int i = 0; i + 1 < all.size(); i += 2) {
        dues.due(name + ", answer " + i / 2, (Long) all.get(i), (Long) all.get(i + 1));
      }
    }
  }

  /** The table of KINDS: each call of it is UNLIKE on just those PAGES in whose row it does not stand. */
  private void kinds() {
    Matcher row = Pattern.compile("(?m)^\\| (\\d .*?) \\| (.*) \\|$").matcher(text);
    String[] rowOf = new String[KINDS];
    StringBuilder table = new StringBuilder();
    while (row.find()) {
      table.append(row.group(2));
      Matcher kind = Pattern.compile("\\d").matcher(row.group(1));
      while (kind.find()) rowOf[Integer.parseInt(kind.group())] = row.group(2);
    }
    for (int kind = 0; kind < KINDS; kind++) {
      dues.due("KIND " + kind + " has a row", rowOf[kind] != null);
      for (Method m : ManyHands.class.getDeclaredMethods()) {
        String told = "`" + m.getName() + "()`";
        if (table.indexOf(told) < 0 || rowOf[kind] == null) continue;
        dues.due(told + " on KIND " + kind + " is UNLIKE", isUnlike(m, kind), rowOf[kind].contains(told) ? 0 : 1);
      }
    }
  }

  /** Calls it on PAGE 0 by HAND 0; a third number is 1, the other HAND, and a fourth one 0. */
  private static long isUnlike(Method m, int kind) {
    ManyHands book = new ManyHands();
    book.hand();
    book.hand();
    book.page(kind);
    String third = m.getName().equals("raise") ? ", true" : ", 1";
    String[] rest = {"", third, third + ", 0"};
    long answer = new Call(m.getName() + "(0, 0" + rest[m.getParameterCount() - 2] + ")").on(book);
    return answer == ManyHands.FINDING && book.finding() == UNLIKE ? 1 : 0;
  }

  private void namesTests() {
    File[] files = TESTS.toFile().listFiles();
    for (File f : files == null ? new File[0] : files) {
      String name = f.getName().replace(".java", "");
      if (name.endsWith("Test")) dues.due("README.md names " + name, text.contains("`" + name + "`"));
    }
    Matcher named = Pattern.compile("`(\\w+Test|Rows|PlainBook)`").matcher(text);
    while (named.find()) {
      dues.due(named.group(1) + " is there", Files.exists(TESTS.resolve(named.group(1) + ".java")));
    }
  }

  private void namesCalls() {
    List<String> face = new ArrayList<>();
    for (Method m : ManyHands.class.getDeclaredMethods()) {
      if (Modifier.isPublic(m.getModifiers())) face.add(m.getName());
    }
    for (String name : face) dues.due("README.md names " + name + "()", text.contains("`" + name + "()`"));
    Matcher named = Pattern.compile("`(\\w+)\\(\\)`").matcher(text);
    while (named.find()) dues.due(named.group(1) + "() is a call", face.contains(named.group(1)));
  }

  private void namesFiles() {
    Matcher named = Pattern.compile("`((?:src|\\.\\.|\\.ci)/[\\w./]+)`").matcher(text);
    int files = 0;
    while (named.find()) {
      files++;
      dues.due(named.group(1) + " is there", Files.exists(Path.of(named.group(1))));
    }
    dues.due("README.md names files", files > 3);
  }
}
