import java.lang.reflect.Constructor;
import java.lang.reflect.Field;
import java.lang.reflect.Method;
import java.lang.reflect.Modifier;
import java.nio.file.Files;
import java.nio.file.Path;
import java.util.ArrayList;
import java.util.HashSet;
import java.util.List;
import java.util.Set;
import java.util.regex.Matcher;
import java.util.regex.Pattern;

/** The rules of LANGUAGE.md that can be told from the file's text or its members; FaceTest has the face and some words. */
public final class RulesTest {
  private static final Path FILE = Path.of("src/main/java/ManyHands.java");
  private static final int MOST_PARAMETERS = 7, MOST_LINES = 60, MOST_CLASSES = 12, MOST_FIELDS = 20;
  private static final Set<String> IMPORTS = Set.of("java.util.ArrayList", "java.util.List", "java.util.Arrays");
  private static final Set<String> LIBRARY = Set.of(
      "add", "get", "set", "remove", "size", "isEmpty", "clear", "min", "max", "abs", "arraycopy", "fill", "copyOf");
  private static final Set<String> CONSTANTS = Set.of(
      "int", "long", "boolean", "char", "String", "int[]", "long[]", "char[]", "byte[]");
  private static final Set<String> TYPES = Set.of("int", "long", "boolean", "int[]", "long[]", "boolean[]", "ArrayList");

  private final Dues dues = new Dues("RulesTest");
  private final List<Class<?>> classes = new ArrayList<>();
  private String code;

  public static void main(String[] args) throws Exception {
    RulesTest t = new RulesTest();
    t.classes.add(ManyHands.class);
    t.classes.addAll(List.of(ManyHands.class.getDeclaredClasses()));
    String text = Files.readString(FILE);
    t.code = text.replaceAll("(?s)/\\*.*?\\*/", "").replaceAll("//[^\n]*", "");
    t.oneFile(text);
    t.classesInside();
    t.fieldsOfAll();
    t.parameters();
    t.importsAndLibrary();
    t.wordsAndLoops();
    t.lengthOfMethods();
    t.dues.end();
  }

  private void oneFile(String text) throws Exception {
    try (var files = Files.list(FILE.getParent())) {
      dues.due("rule 0: one file", files.count(), 1);
    }
    for (int i = 0; i < text.length(); i++) dues.due("rule 3: character " + i + " is plain", text.charAt(i) < 128);
  }

  private void classesInside() {
    dues.due("rule 11: some twelve classes", classes.size() <= MOST_CLASSES);
    for (Class<?> c : classes) {
      boolean outer = c == ManyHands.class;
      dues.due("rule 2: " + c + " is static", outer || Modifier.isStatic(c.getModifiers()));
      dues.due("rule 2: " + c + " has no class inside", outer || c.getDeclaredClasses().length == 0);
      dues.due("rule 2: " + c + " is under no other one", c.getSuperclass() == Object.class);
    }
    dues.due("rule 2: no local or anonymous class", !Pattern.compile("new \\w+(<.*?>)?\\([^;]*\\)\\s*\\{").matcher(code).find());
  }

  private void fieldsOfAll() {
    for (Class<?> c : classes) {
      int own = 0;
      for (Field f : c.getDeclaredFields()) {
        String type = f.getType().getSimpleName();
        if (Modifier.isStatic(f.getModifiers())) {
          dues.due("rule 5: " + f + " is final", Modifier.isFinal(f.getModifiers()));
          dues.due("rule 5: " + f + " is a constant", CONSTANTS.contains(type));
        } else {
          own++;
          Class<?> part = f.getType().isArray() ? f.getType().getComponentType() : f.getType();
          dues.due("rule 3: " + f + " is of a type that may be", TYPES.contains(type) || classes.contains(part));
        }
      }
      dues.due("rule 11: " + c + " has some twenty fields", own <= MOST_FIELDS);
    }
    dues.due("rule 5: no static initialiser", !Pattern.compile("static\\s*\\{").matcher(code).find());
  }

  private void parameters() {
    for (Class<?> c : classes) {
      for (Method m : c.getDeclaredMethods()) {
        dues.due("rule 11: parameters of " + m, m.getParameterCount() <= MOST_PARAMETERS);
      }
      for (Constructor<?> m : c.getDeclaredConstructors()) {
        dues.due("rule 11: parameters of " + m, m.getParameterCount() <= MOST_PARAMETERS);
      }
    }
  }

  private void importsAndLibrary() {
    Matcher imports = Pattern.compile("import ([\\w.*]+);").matcher(code);
    while (imports.find()) dues.due("rule 4: import " + imports.group(1), IMPORTS.contains(imports.group(1)));
    Set<String> known = new HashSet<>(LIBRARY);
    for (Class<?> c : classes) {
      for (Method m : c.getDeclaredMethods()) known.add(m.getName());
    }
    Matcher calls = Pattern.compile("\\.(\\w+)\\(").matcher(code);
    while (calls.find()) dues.due("rule 4: ." + calls.group(1) + "()", known.contains(calls.group(1)));
    Matcher names = Pattern.compile("\\b([A-Z][a-z]\\w*)\\b").matcher(code);
    Set<String> classNames = new HashSet<>(Set.of("ArrayList", "Math", "System"));
    for (Class<?> c : classes) classNames.add(c.getSimpleName());
    while (names.find()) dues.due("rule 4: the name " + names.group(1), classNames.contains(names.group(1)));
  }

  private void wordsAndLoops() {
    String[] out = {"double", "float", "instanceof", "equals", "var", "native", "volatile", "extends", "yield", "goto"};
    for (String word : out) {
      dues.due("rules 3, 6: no '" + word + "' here", !Pattern.compile("\\b" + word + "\\b").matcher(code).find());
    }
    dues.due("rule 3: no texts", code.indexOf('"') < 0);
    dues.due("rule 9: no loop without an end",
        !Pattern.compile("while \\(true\\)|for \\([^;]*;\\s*;").matcher(code).find());
  }

  /** A method goes from a line that opens it, by its indent, to the next closing brace at the same indent. */
  private void lengthOfMethods() {
    String[] lines = code.split("\n");
    Pattern opens = Pattern.compile("^( {2}| {4})(?=\\w)(?!if |for |while |switch )[\\w<>\\[\\] ]+\\([^;]*\\{$");
    int methods = 0;
    for (int i = 0; i < lines.length; i++) {
      Matcher m = opens.matcher(lines[i]);
      if (!m.find()) continue;
      methods++;
      int end = i;
      while (end < lines.length - 1 && !lines[end].equals(m.group(1) + "}")) end++;
      dues.due("rule 11: lines of " + lines[i].trim(), end - i + 1 <= MOST_LINES);
    }
    dues.due("rule 11: the methods are found: " + methods, methods > 39);
  }
}
