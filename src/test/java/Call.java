import java.lang.reflect.InvocationTargetException;
import java.lang.reflect.Method;
import java.util.HashMap;
import java.util.Map;

/** One call of the face, read from its text: "write(0, 1, MAX)"; MAX and MIN are those of the parameter's type. */
final class Call {
  private static final Map<String, Method> FACE = new HashMap<>();
  private static final Map<String, Long> NAMES = new HashMap<>();

  static {
    for (Method m : ManyHands.class.getMethods()) {
      if (m.getDeclaringClass() == ManyHands.class) FACE.put(m.getName(), m);
    }
    String[] kinds = {"LAST", "FIRST", "TALLY", "BAG", "MANY", "PURSE", "FLAG", "CALM"};
    for (int i = 0; i < kinds.length; i++) NAMES.put(kinds[i], (long) i);
  }

  final String text;
  final String name;
  private final Method method;
  private final Object[] values;

  Call(String text) {
    this.text = text;
    int open = text.indexOf('(');
    name = text.substring(0, open);
    method = FACE.get(name);
    if (method == null) throw new IllegalArgumentException("no such call: " + text);
    String inner = text.substring(open + 1, text.lastIndexOf(')')).trim();
    String[] words = inner.isEmpty() ? new String[0] : inner.split(",");
    Class<?>[] types = method.getParameterTypes();
    if (words.length != types.length) throw new IllegalArgumentException("wrong many arguments: " + text);
    values = new Object[types.length];
    for (int i = 0; i < types.length; i++) values[i] = valueOf(words[i].trim(), types[i]);
  }

  private static Object valueOf(String word, Class<?> type) {
    if (type == boolean.class) {
      if (!word.equals("true") && !word.equals("false")) throw new IllegalArgumentException(word);
      return word.equals("true");
    }
    if (type == int.class) {
      if (word.equals("MAX")) return Integer.MAX_VALUE;
      if (word.equals("MIN")) return Integer.MIN_VALUE;
      return NAMES.containsKey(word) ? (Object) NAMES.get(word).intValue() : (Object) Integer.parseInt(word);
    }
    if (word.equals("MAX")) return Long.MAX_VALUE;
    if (word.equals("MIN")) return Long.MIN_VALUE;
    return Long.parseLong(word);
  }

  /** Whether a number from -4 to -1 is a refusal here, and not what is told. */
  boolean canBeRefused() {
    return !name.equals("asked") && !name.equals("digest");
  }

  long on(ManyHands x) {
    try {
      return ((Number) method.invoke(x, values)).longValue();
    } catch (InvocationTargetException e) {
      throw new IllegalStateException(text + " threw " + e.getCause(), e.getCause());
    } catch (IllegalAccessException e) {
      throw new IllegalStateException(e);
    }
  }
}
