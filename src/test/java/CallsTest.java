import com.sun.source.tree.AssignmentTree;
import com.sun.source.tree.BinaryTree;
import com.sun.source.tree.ClassTree;
import com.sun.source.tree.CompilationUnitTree;
import com.sun.source.tree.MethodInvocationTree;
import com.sun.source.tree.MethodTree;
import com.sun.source.tree.NewClassTree;
import com.sun.source.tree.Tree;
import com.sun.source.tree.VariableTree;
import com.sun.source.util.JavacTask;
import com.sun.source.util.TreePath;
import com.sun.source.util.TreePathScanner;
import com.sun.source.util.Trees;
import java.nio.file.Path;
import java.util.ArrayList;
import java.util.HashMap;
import java.util.LinkedHashMap;
import java.util.List;
import java.util.Map;
import java.util.Set;
import java.util.TreeSet;
import javax.lang.model.element.Element;
import javax.lang.model.element.ElementKind;
import javax.lang.model.element.Modifier;
import javax.lang.model.type.TypeMirror;
import javax.tools.JavaCompiler;
import javax.tools.StandardJavaFileManager;
import javax.tools.ToolProvider;

/** Rules 4, 8, 10 and 11 of LANGUAGE.md by what javac itself reads in the class: who calls whom, how deep, and what of the library. */
public final class CallsTest {
  private static final int MOST_DEEP = 8;
  private static final Set<String> LIBRARY = Set.of(
      "String.length()", "String.charAt(int)", "String.isEmpty()", "String.equals(java.lang.Object)", "String.indexOf(int)",
      "String.substring(int)", "String.substring(int,int)", "String.toCharArray()",
      "Math.max(int,int)", "Math.max(long,long)", "Math.min(int,int)", "Math.min(long,long)", "Math.abs(int)", "Math.abs(long)");

  private static int wrong = 0;

  private static void due(boolean holds, String rule) {
    if (!holds) { wrong++; System.out.println(rule); }
  }

  private static String nameOf(Element e) {
    return e.getEnclosingElement().getSimpleName() + "." + e;
  }

  /** Whom each method calls; what a class sets up in its fields is called by its constructors. */
  private static final class Calls extends TreePathScanner<Void, Void> {
    private final Trees trees;
    private final Map<Element, Set<Element>> called = new LinkedHashMap<>();
    private final List<Element> face = new ArrayList<>();
    private Element by = null;

    private Calls(Trees trees) { this.trees = trees; }

    @Override public Void visitMethod(MethodTree node, Void v) {
      Element before = by;
      by = trees.getElement(getCurrentPath());
      called.computeIfAbsent(by, k -> new java.util.LinkedHashSet<>());
      if (by.getModifiers().contains(Modifier.PUBLIC)) face.add(by);
      super.visitMethod(node, v);
      by = before;
      return null;
    }

    @Override public Void visitVariable(VariableTree node, Void v) {
      Tree around = getCurrentPath().getParentPath().getLeaf();
      if (!(around instanceof ClassTree) || node.getModifiers().getFlags().contains(Modifier.STATIC)) return super.visitVariable(node, v);
      Element before = by;
      for (Element member : trees.getElement(getCurrentPath().getParentPath()).getEnclosedElements()) {
        if (member.getKind() != ElementKind.CONSTRUCTOR) continue;
        by = member;
        called.computeIfAbsent(by, k -> new java.util.LinkedHashSet<>());
        super.visitVariable(node, v);
      }
      by = before;
      return null;
    }

    private void call(Tree node) {
      Element callee = trees.getElement(new TreePath(getCurrentPath(), node));
      if (callee == null || by == null || callee.toString().equals("Object()")) return;
      called.get(by).add(callee);
    }

    @Override public Void visitMethodInvocation(MethodInvocationTree node, Void v) {
      if (!node.getMethodSelect().toString().equals("super")) call(node);
      return super.visitMethodInvocation(node, v);
    }

    @Override public Void visitNewClass(NewClassTree node, Void v) {
      call(node);
      return super.visitNewClass(node, v);
    }

    @Override public Void visitBinary(BinaryTree node, Void v) {
      for (Tree side : new Tree[] {node.getLeftOperand(), node.getRightOperand()}) {
        TypeMirror type = trees.getTypeMirror(new TreePath(getCurrentPath(), side));
        boolean isText = type != null && type.toString().equals("java.lang.String");
        due(!isText, "a text joined or compared by an operator: " + node);
      }
      return super.visitBinary(node, v);
    }

    @Override public Void visitAssignment(AssignmentTree node, Void v) {
      Element to = trees.getElement(new TreePath(getCurrentPath(), node.getVariable()));
      due(to == null || !to.getModifiers().contains(Modifier.STATIC), "a static field is set: " + node);
      return super.visitAssignment(node, v);
    }
  }

  /** The longest chain of calls that begins here, itself counted, the library's functions too. */
  private static List<String> deepest(Element from, Calls calls, Map<Element, List<String>> known, List<Element> open) {
    if (known.containsKey(from)) return known.get(from);
    if (open.contains(from)) {
      due(false, "calls itself: " + nameOf(from));
      return List.of();
    }
    open.add(from);
    List<String> longest = List.of();
    for (Element next : calls.called.getOrDefault(from, Set.of())) {
      List<String> chain = deepest(next, calls, known, open);
      if (chain.size() > longest.size()) longest = chain;
    }
    open.remove(from);
    List<String> whole = new ArrayList<>(List.of(nameOf(from)));
    whole.addAll(longest);
    known.put(from, whole);
    return whole;
  }

  private static void depth(Calls calls) {
    due(calls.face.size() == 26, "the face has " + calls.face.size() + " calls");
    Map<Element, List<String>> known = new HashMap<>();
    for (Element first : calls.face) {
      List<String> chain = deepest(first, calls, known, new ArrayList<>());
      due(chain.size() <= MOST_DEEP, chain.size() + " deep: " + chain);
    }
    for (Element own : calls.called.keySet()) due(known.containsKey(own), "never called: " + nameOf(own));
  }

  private static void library(Calls calls) {
    Set<String> foreign = new TreeSet<>();
    for (Set<Element> all : calls.called.values())
      for (Element e : all) if (!calls.called.containsKey(e)) foreign.add(nameOf(e));
    for (String name : foreign) due(LIBRARY.contains(name), "not of the library that is allowed: " + name);
  }

  public static void main(String[] args) throws Exception {
    JavaCompiler compiler = ToolProvider.getSystemJavaCompiler();
    StandardJavaFileManager files = compiler.getStandardFileManager(null, null, null);
    JavacTask task = (JavacTask) compiler.getTask(null, files, null, null, null,
        files.getJavaFileObjects(Path.of("src/main/java/KeptUpByFeet.java")));
    Iterable<? extends CompilationUnitTree> units = task.parse();
    task.analyze();
    Calls calls = new Calls(Trees.instance(task));
    for (CompilationUnitTree unit : units) calls.scan(unit, null);
    depth(calls);
    library(calls);
    System.out.println(wrong == 0 ? "the calls are as they must be" : wrong + " calls are not as they must be");
    if (wrong != 0) System.exit(1);
  }
}
