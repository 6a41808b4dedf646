import java.lang.reflect.Constructor;
import java.lang.reflect.Field;
import java.lang.reflect.Method;
import java.lang.reflect.Modifier;
import java.nio.file.Files;
import java.nio.file.Path;
import java.util.HashSet;
import java.util.Set;
import java.util.TreeSet;

/** The public face is the document's and no more, and the file keeps from what LANGUAGE.md rules out by name. */
public final class FaceTest {
  private static final String[] FACE = {
    "int hand()", "int page(int)", "int is(int,int)", "int keep(int,int,boolean)", "int write(int,int,long)",
    "int add(int,int,long)", "int put(int,int,int)", "int take(int,int,int)", "int give(int,int,int,long)",
    "int spend(int,int,long)", "int raise(int,int,boolean)", "int change(int,int)", "int knows(int,int)",
    "int come(int,int)", "int meet(int,int,int)", "int lose(int)", "int told(int,int)", "int has(int,int)",
    "int compare(int,int)", "int value(int,int)", "int sum(int,int)", "int mean(int,int)", "int often(int,int,int)",
    "int inside(int,int,int)", "int heads(int,int)", "int head(int,int,int)", "int rights(int,int,int)",
    "int up(int,int)", "int alike(int,int,int)", "int leaves(int,int)", "int save(int,int)", "int tear(int,int)",
    "int leaf(int,int)", "int copy(int,int,int,int,int)", "long asked()", "int count(int)", "int finding()",
    "int findings(int)", "long digest(int)"};
  private static final String[] RULED_OUT = {
    "throw", "try", "catch", "synchronized", "assert", "package", "protected", "hashCode", "toString", "Object",
    "System.out", "System.nanoTime", "System.currentTimeMillis", "Random", "Thread", "::", "->", "Exact("};

  private final Dues dues = new Dues("FaceTest");

  public static void main(String[] args) throws Exception {
    FaceTest t = new FaceTest();
    t.members();
    t.constants();
    t.namesOfPrivateMethods();
    t.words(Files.readString(Path.of("src/main/java/ManyHands.java")));
    t.dues.end();
  }

  private void members() {
    Set<String> due = new TreeSet<>(Set.of(FACE));
    Set<String> open = new TreeSet<>();
    for (Method m : ManyHands.class.getDeclaredMethods()) {
      if (Modifier.isPrivate(m.getModifiers())) continue;
      dues.due(m + " is public, not static", Modifier.isPublic(m.getModifiers()) && !Modifier.isStatic(m.getModifiers()));
      open.add(told(m));
    }
    dues.due("the methods " + open + " are " + due, open.equals(due));
    Constructor<?>[] made = ManyHands.class.getDeclaredConstructors();
    dues.due("constructors", made.length, 1);
    dues.due("constructor's parameters", made[0].getParameterCount(), 0);
    dues.due("it is public", Modifier.isPublic(made[0].getModifiers()));
    dues.due("the class is final", Modifier.isFinal(ManyHands.class.getModifiers()));
    for (Class<?> inner : ManyHands.class.getDeclaredClasses()) {
      dues.due(inner + " is static", Modifier.isStatic(inner.getModifiers()));
      dues.due(inner + " is not public", !Modifier.isPublic(inner.getModifiers()));
    }
  }

  private static String told(Method m) {
    StringBuilder s = new StringBuilder(m.getReturnType().getSimpleName()).append(' ').append(m.getName()).append('(');
    Class<?>[] types = m.getParameterTypes();
    for (int i = 0; i < types.length; i++) s.append(i == 0 ? "" : ",").append(types[i].getSimpleName());
    return s.append(')').toString();
  }

  private void constants() {
    dues.due("BAD", ManyHands.BAD, -1);
    dues.due("FULL", ManyHands.FULL, -2);
    dues.due("FINDING", ManyHands.FINDING, -3);
    dues.due("STATE", ManyHands.STATE, -4);
    dues.due("NONE", ManyHands.NONE, -9);
    Set<String> open = new TreeSet<>();
    for (Field f : ManyHands.class.getDeclaredFields()) {
      if (!Modifier.isPrivate(f.getModifiers())) open.add(f.getName());
      if (Modifier.isStatic(f.getModifiers())) dues.due(f + " is final", Modifier.isFinal(f.getModifiers()));
    }
    dues.due("the open fields " + open, open.equals(Set.of("BAD", "FULL", "FINDING", "STATE", "NONE")));
  }

  private void namesOfPrivateMethods() {
    Set<String> open = new HashSet<>();
    for (String one : FACE) open.add(one.substring(one.indexOf(' ') + 1, one.indexOf('(')));
    for (Method m : ManyHands.class.getDeclaredMethods()) {
      if (Modifier.isPrivate(m.getModifiers())) dues.due(m + " bears a name of its own", !open.contains(m.getName()));
    }
    for (Class<?> inner : ManyHands.class.getDeclaredClasses()) {
      for (Method m : inner.getDeclaredMethods()) dues.due(m + " bears a name of its own", !open.contains(m.getName()));
    }
  }

  private void words(String text) {
    String code = text.replaceAll("(?s)/\\*.*?\\*/", "").replaceAll("//[^\n]*", "");
    for (String word : RULED_OUT) {
      boolean plain = Character.isLetter(word.charAt(0)) && Character.isLetter(word.charAt(word.length() - 1));
      String form = plain ? "\\b" + word.replace(".", "\\.") + "\\b" : java.util.regex.Pattern.quote(word);
      dues.due("'" + word + "' is not in the file", !java.util.regex.Pattern.compile(form).matcher(code).find());
    }
  }
}
