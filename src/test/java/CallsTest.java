import com.sun.source.tree.BinaryTree;
import com.sun.source.tree.ClassTree;
import com.sun.source.tree.CompilationUnitTree;
import com.sun.source.tree.DoWhileLoopTree;
import com.sun.source.tree.EnhancedForLoopTree;
import com.sun.source.tree.ForLoopTree;
import com.sun.source.tree.MethodInvocationTree;
import com.sun.source.tree.MethodTree;
import com.sun.source.tree.NewArrayTree;
import com.sun.source.tree.NewClassTree;
import com.sun.source.tree.Tree;
import com.sun.source.tree.TypeCastTree;
import com.sun.source.tree.WhileLoopTree;
import com.sun.source.util.JavacTask;
import com.sun.source.util.TreePathScanner;
import com.sun.source.util.Trees;
import java.nio.file.Path;
import java.util.ArrayList;
import java.util.HashMap;
import java.util.LinkedHashSet;
import java.util.List;
import java.util.Map;
import java.util.Set;
import javax.lang.model.element.Element;
import javax.lang.model.element.ElementKind;
import javax.tools.JavaCompiler;
import javax.tools.StandardJavaFileManager;
import javax.tools.ToolProvider;

/** The rules of LANGUAGE.md about which method calls which, and what is made where, as the compiler reads the file. */
public final class CallsTest extends TreePathScanner<Void, Void> {
  private static final Path FILE = Path.of("src/main/java/ManyHands.java");
  private static final int MOST_DEEP = 8;
  private static final Set<String> LIBRARY = Set.of(
      "java.util.ArrayList.add", "java.util.ArrayList.get", "java.util.ArrayList.remove", "java.util.ArrayList.size",
      "java.util.ArrayList.isEmpty", "java.util.ArrayList.clear", "java.util.ArrayList.new", "java.lang.Math.min",
      "java.lang.Math.max", "java.lang.System.arraycopy", "java.lang.Object.new");

  private final Dues dues = new Dues("CallsTest");
  private final Map<String, Set<String>> calls = new HashMap<>();
  private final Map<String, Integer> depths = new HashMap<>();
  private final List<String> open = new ArrayList<>();
  private Trees trees;
  private String method;
  private int loops;
  private int divisions;

  public static void main(String[] args) throws Exception {
    CallsTest t = new CallsTest();
    t.read();
    int deepest = 0;
    for (String m : t.calls.keySet()) deepest = Math.max(deepest, t.depth(m));
    t.dues.due("rule 11: calls go at most eight deep, these " + deepest, deepest <= MOST_DEEP);
    t.dues.due("the calls are found: " + t.depths.size(), t.depths.size() > 80 && deepest > 3);
    t.dues.due("rule 7: divisions, each looked at by hand", t.divisions, 1);
    t.dues.end();
  }

  private void read() throws Exception {
    JavaCompiler compiler = ToolProvider.getSystemJavaCompiler();
    try (StandardJavaFileManager files = compiler.getStandardFileManager(null, null, null)) {
      JavacTask task = (JavacTask) compiler.getTask(null, files, null, null, null, files.getJavaFileObjects(FILE));
      Iterable<? extends CompilationUnitTree> units = task.parse();
      task.analyze();
      trees = Trees.instance(task);
      for (CompilationUnitTree unit : units) scan(unit, null);
    }
  }

  private Element element() {
    return trees.getElement(getCurrentPath());
  }

  private static String nameOf(Element e) {
    String name = e.getKind() == ElementKind.CONSTRUCTOR ? "new" : e.getSimpleName().toString();
    return e.getEnclosingElement() + "." + name;
  }

  /** What fields are made with counts to the constructor. */
  @Override public Void visitClass(ClassTree tree, Void v) {
    String outer = method;
    method = element() + ".new";
    super.visitClass(tree, v);
    method = outer;
    return null;
  }

  @Override public Void visitMethod(MethodTree tree, Void v) {
    String outer = method;
    method = nameOf(element());
    calls.computeIfAbsent(method, m -> new LinkedHashSet<>());
    super.visitMethod(tree, v);
    method = outer;
    return null;
  }

  private void called() {
    String name = nameOf(element());
    dues.due("rule 4: " + name + " may be called", name.startsWith("ManyHands") || LIBRARY.contains(name));
    calls.computeIfAbsent(method, m -> new LinkedHashSet<>()).add(name);
  }

  @Override public Void visitMethodInvocation(MethodInvocationTree tree, Void v) {
    called();
    return super.visitMethodInvocation(tree, v);
  }

  @Override public Void visitNewClass(NewClassTree tree, Void v) {
    called();
    dues.due("rule 12: " + tree + " is made in no loop", loops, 0);
    return super.visitNewClass(tree, v);
  }

  @Override public Void visitNewArray(NewArrayTree tree, Void v) {
    dues.due("rule 12: " + tree + " is made in no loop", loops, 0);
    return super.visitNewArray(tree, v);
  }

  @Override public Void visitTypeCast(TypeCastTree tree, Void v) {
    dues.due("rule 6: no cast here: " + tree, false);
    return super.visitTypeCast(tree, v);
  }

  @Override public Void visitBinary(BinaryTree tree, Void v) {
    if (tree.getKind() == Tree.Kind.DIVIDE || tree.getKind() == Tree.Kind.REMAINDER) divisions++;
    return super.visitBinary(tree, v);
  }

  @Override public Void visitForLoop(ForLoopTree tree, Void v) {
    loops++;
    dues.due("rule 9: the loop has an end: " + tree.getCondition(), tree.getCondition() != null);
    super.visitForLoop(tree, v);
    loops--;
    return null;
  }

  @Override public Void visitEnhancedForLoop(EnhancedForLoopTree tree, Void v) {
    loops++;
    super.visitEnhancedForLoop(tree, v);
    loops--;
    return null;
  }

  @Override public Void visitWhileLoop(WhileLoopTree tree, Void v) {
    loops++;
    super.visitWhileLoop(tree, v);
    loops--;
    return null;
  }

  @Override public Void visitDoWhileLoop(DoWhileLoopTree tree, Void v) {
    loops++;
    super.visitDoWhileLoop(tree, v);
    loops--;
    return null;
  }

  /** How many calls stand open at most, from this one on; a call that is open already is recursion. */
  private int depth(String name) {
    dues.due("rule 8: no recursion through " + open + " to " + name, !open.contains(name));
    if (open.contains(name)) return 0;
    Integer known = depths.get(name);
    if (known != null) return known;
    open.add(name);
    int deepest = 0;
    for (String other : calls.getOrDefault(name, Set.of())) deepest = Math.max(deepest, depth(other));
    open.remove(open.size() - 1);
    depths.put(name, deepest + 1);
    return deepest + 1;
  }
}
