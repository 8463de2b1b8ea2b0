import com.sun.source.tree.ArrayAccessTree;
import com.sun.source.tree.AssignmentTree;
import com.sun.source.tree.BinaryTree;
import com.sun.source.tree.BlockTree;
import com.sun.source.tree.ClassTree;
import com.sun.source.tree.CompilationUnitTree;
import com.sun.source.tree.CompoundAssignmentTree;
import com.sun.source.tree.DoWhileLoopTree;
import com.sun.source.tree.EnhancedForLoopTree;
import com.sun.source.tree.ExpressionTree;
import com.sun.source.tree.ForLoopTree;
import com.sun.source.tree.MemberSelectTree;
import com.sun.source.tree.MethodInvocationTree;
import com.sun.source.tree.MethodTree;
import com.sun.source.tree.NewClassTree;
import com.sun.source.tree.Tree;
import com.sun.source.tree.TypeCastTree;
import com.sun.source.tree.VariableTree;
import com.sun.source.tree.WhileLoopTree;
import com.sun.source.util.JavacTask;
import com.sun.source.util.TreePath;
import com.sun.source.util.TreePathScanner;
import com.sun.source.util.Trees;
import java.io.File;
import java.util.ArrayList;
import java.util.Arrays;
import java.util.EnumSet;
import java.util.HashMap;
import java.util.HashSet;
import java.util.LinkedHashMap;
import java.util.LinkedHashSet;
import java.util.List;
import java.util.Map;
import java.util.Set;
import java.util.TreeSet;
import javax.lang.model.element.Element;
import javax.lang.model.element.ExecutableElement;
import javax.lang.model.element.Modifier;
import javax.lang.model.element.TypeElement;
import javax.lang.model.element.VariableElement;
import javax.lang.model.type.ArrayType;
import javax.lang.model.type.TypeKind;
import javax.lang.model.type.TypeMirror;
import javax.tools.JavaCompiler;
import javax.tools.StandardJavaFileManager;
import javax.tools.ToolProvider;

/**
 * What of LANGUAGE.md the compiler's own trees show: kinds of code, types, the library, loops, and how deep calls go.
 * Stricter than the rules where the class needs less than they leave: widen it if the class comes to need more.
 */
public final class FormTest {
  private static final Set<String> LIBRARY = Set.of("String.length", "String.charAt", "Integer.bitCount", "Math.min", "Math.max",
      "System.arraycopy", "Arrays.fill");
  private static final Set<Tree.Kind> RULED_OUT = EnumSet.of(Tree.Kind.LAMBDA_EXPRESSION, Tree.Kind.MEMBER_REFERENCE,
      Tree.Kind.THROW, Tree.Kind.TRY, Tree.Kind.CATCH, Tree.Kind.SYNCHRONIZED, Tree.Kind.ASSERT, Tree.Kind.ANNOTATION,
      Tree.Kind.INSTANCE_OF, Tree.Kind.DOUBLE_LITERAL, Tree.Kind.FLOAT_LITERAL, Tree.Kind.ENUM, Tree.Kind.INTERFACE);
  private static final Set<Tree.Kind> ORDERS = EnumSet.of(Tree.Kind.LESS_THAN, Tree.Kind.LESS_THAN_EQUAL,
      Tree.Kind.GREATER_THAN, Tree.Kind.GREATER_THAN_EQUAL);
  private static final int DEEPEST = 8;

  private static int good = 0;
  private static int bad = 0;

  private static void wants(String what, boolean holds) {
    if (holds) {
      good++;
    } else {
      bad++;
      System.out.println("LANGUAGE: " + what);
    }
  }

  /** Argument: the source. */
  public static void main(String[] args) throws Exception {
    JavaCompiler compiler = ToolProvider.getSystemJavaCompiler();
    try (StandardJavaFileManager files = compiler.getStandardFileManager(null, null, null)) {
      JavacTask task = (JavacTask) compiler.getTask(null, files, null, List.of("-proc:none"), null,
          files.getJavaFileObjects(new File(args[0])));
      CompilationUnitTree unit = task.parse().iterator().next();
      task.analyze();
      wants("one class in the file", unit.getTypeDecls().size() == 1);
      wants("no package", unit.getPackage() == null);
      Look look = new Look(Trees.instance(task), unit);
      look.scan(unit, null);
      depth(look);
    }
    System.out.println("FormTest: " + good + " passed, " + bad + " failed");
    if (bad != 0) System.exit(1);
  }

  /** Calls that are no recursion go at most eight deep; the one ring of recursion is that of tests and facts. */
  private static void depth(Look look) {
    Map<Element, Set<Element>> calls = look.calls;
    Set<String> recursive = new TreeSet<>();
    for (Element from : calls.keySet()) {
      if (reached(calls, from).contains(from)) recursive.add(name(from));
    }
    wants("recursion of " + recursive, recursive.equals(Set.of("RuleReader.readTest", "RuleReader.readFact")));
    int deepest = 0;
    for (Element from : calls.keySet()) {
      List<String> way = longest(calls, from, new ArrayList<>());
      wants(way + " is " + way.size() + " deep", way.size() <= DEEPEST);
      deepest = Math.max(deepest, way.size());
    }
    wants("calls were looked at", deepest > 4);
    Set<Element> used = new HashSet<>();
    for (Set<Element> all : calls.values()) used.addAll(all);
    for (Element e : calls.keySet()) {
      wants(name(e) + " is never called", used.contains(e) || e.getModifiers().contains(Modifier.PUBLIC) || name(e).endsWith("<init>"));
    }
  }

  private static Set<Element> reached(Map<Element, Set<Element>> calls, Element from) {
    Set<Element> all = new LinkedHashSet<>();
    List<Element> open = new ArrayList<>(calls.getOrDefault(from, Set.of()));
    while (!open.isEmpty()) {
      Element e = open.remove(open.size() - 1);
      if (all.add(e)) open.addAll(calls.getOrDefault(e, Set.of()));
    }
    return all;
  }

  /** The longest chain of calls without a method twice, the library's methods at its end counted too. */
  private static List<String> longest(Map<Element, Set<Element>> calls, Element from, List<Element> above) {
    List<Element> here = new ArrayList<>(above);
    here.add(from);
    List<String> best = List.of();
    for (Element to : calls.getOrDefault(from, Set.of())) {
      if (here.contains(to)) continue;
      List<String> way = longest(calls, to, here);
      if (way.size() > best.size()) best = way;
    }
    List<String> all = new ArrayList<>(List.of(name(from)));
    all.addAll(best);
    return all;
  }

  private static String name(Element e) {
    return e.getEnclosingElement().getSimpleName() + "." + e.getSimpleName();
  }

  /** Goes through the whole tree. */
  private static final class Look extends TreePathScanner<Void, Void> {
    final Trees trees;
    final CompilationUnitTree unit;
    final Map<Element, Set<Element>> calls = new LinkedHashMap<>();
    private Element method = null;
    private final Map<Tree, Boolean> seen = new HashMap<>();

    Look(Trees trees, CompilationUnitTree unit) {
      this.trees = trees;
      this.unit = unit;
    }

    private String at(Tree tree) {
      long place = trees.getSourcePositions().getStartPosition(unit, tree);
      return "line " + unit.getLineMap().getLineNumber(place) + ": ";
    }

    private TypeMirror typeOf(Tree tree) {
      return trees.getTypeMirror(TreePath.getPath(unit, tree));
    }

    private static boolean own(Element e) {
      for (Element up = e; up != null; up = up.getEnclosingElement()) {
        if (up.getSimpleName().contentEquals("ChairCane")) return true;
      }
      return false;
    }

    @Override
    public Void scan(Tree tree, Void none) {
      if (tree != null && seen.put(tree, true) == null) {
        wants(at(tree) + tree.getKind() + " is ruled out", !RULED_OUT.contains(tree.getKind()));
      }
      return super.scan(tree, none);
    }

    @Override
    public Void visitClass(ClassTree tree, Void none) {
      Element e = trees.getElement(getCurrentPath());
      boolean outer = e.getEnclosingElement().getKind().isClass();
      boolean nested = e.getModifiers().contains(Modifier.STATIC) && tree.getExtendsClause() == null;
      wants(at(tree) + tree.getSimpleName() + " is static and within ChairCane", !outer || nested);
      wants(at(tree) + "no class without a name", tree.getSimpleName().length() > 0);
      wants(at(tree) + "no interfaces", tree.getImplementsClause().isEmpty());
      for (Tree member : tree.getMembers()) wants(at(member) + "no bare block", !(member instanceof BlockTree));
      return super.visitClass(tree, none);
    }

    @Override
    public Void visitMethod(MethodTree tree, Void none) {
      method = trees.getElement(getCurrentPath());
      calls.computeIfAbsent(method, m -> new LinkedHashSet<>());
      long from = trees.getSourcePositions().getStartPosition(unit, tree);
      long to = trees.getSourcePositions().getEndPosition(unit, tree);
      long lines = unit.getLineMap().getLineNumber(Math.max(from, to)) - unit.getLineMap().getLineNumber(from) + 1;
      wants(at(tree) + tree.getName() + " has " + lines + " lines", lines <= 60);
      wants(at(tree) + tree.getName() + " takes at most seven", tree.getParameters().size() <= 7);
      if (tree.getReturnType() != null) plainType(tree, typeOf(tree.getReturnType()));
      super.visitMethod(tree, none);
      method = null;
      return null;
    }

    @Override
    public Void visitVariable(VariableTree tree, Void none) {
      Element e = trees.getElement(getCurrentPath());
      plainType(tree, e.asType());
      if (e.getModifiers().contains(Modifier.STATIC)) {
        boolean constant = ((VariableElement) e).getConstantValue() != null;
        wants(at(tree) + tree.getName() + " is a constant", e.getModifiers().contains(Modifier.FINAL) && constant);
      }
      return super.visitVariable(tree, none);
    }

    /** Numbers, booleans, own classes and rows of these, texts. */
    private void plainType(Tree tree, TypeMirror type) {
      TypeMirror one = type.getKind() == TypeKind.ARRAY ? ((ArrayType) type).getComponentType() : type;
      boolean plain = one.getKind().isPrimitive() || one.getKind() == TypeKind.VOID || one.toString().equals("java.lang.String")
          || one.toString().startsWith("ChairCane");
      wants(at(tree) + "the type " + type, plain && one.getKind() != TypeKind.DOUBLE && one.getKind() != TypeKind.FLOAT);
    }

    @Override
    public Void visitMethodInvocation(MethodInvocationTree tree, Void none) {
      Element e = trees.getElement(getCurrentPath());
      boolean superCall = e.getSimpleName().contentEquals("<init>");
      if (!superCall) {
        wants(at(tree) + name(e) + " is of the library told", own(e) || LIBRARY.contains(name(e)));
        wants(at(tree) + name(e) + " is called in a method", method != null);
        wants(at(tree) + "a constructor calls " + name(e), method == null || !method.getSimpleName().contentEquals("<init>"));
        if (method != null) calls.get(method).add(e);
        ExecutableElement called = (ExecutableElement) e;
        boolean bound = called.getModifiers().contains(Modifier.STATIC) || !own(e)
            || ((TypeElement) called.getEnclosingElement()).getModifiers().contains(Modifier.FINAL);
        wants(at(tree) + name(e) + " could be overridden", bound);
      }
      return super.visitMethodInvocation(tree, none);
    }

    @Override
    public Void visitNewClass(NewClassTree tree, Void none) {
      wants(at(tree) + "an object made in a call", method == null || method.getSimpleName().contentEquals("<init>"));
      wants(at(tree) + "a class without a name", tree.getClassBody() == null);
      return super.visitNewClass(tree, none);
    }

    @Override
    public Void visitTypeCast(TypeCastTree tree, Void none) {
      wants(at(tree) + "a cast of numbers alone", typeOf(tree.getType()).getKind().isPrimitive());
      return super.visitTypeCast(tree, none);
    }

    @Override
    public Void visitBinary(BinaryTree tree, Void none) {
      TypeMirror left = typeOf(tree.getLeftOperand());
      TypeMirror right = typeOf(tree.getRightOperand());
      boolean numbers = left.getKind().isPrimitive() && right.getKind().isPrimitive();
      boolean same = tree.getKind() == Tree.Kind.EQUAL_TO || tree.getKind() == Tree.Kind.NOT_EQUAL_TO;
      wants(at(tree) + tree + " is of numbers, or against null", numbers || same && right.getKind() == TypeKind.NULL);
      boolean divides = tree.getKind() == Tree.Kind.DIVIDE || tree.getKind() == Tree.Kind.REMAINDER;
      if (divides) divisor(tree, tree.getRightOperand());
      return super.visitBinary(tree, none);
    }

    /** A divisor is a constant that is not 0, or stands behind a test of itself in the same method. */
    private void divisor(Tree tree, ExpressionTree by) {
      Element e = trees.getElement(TreePath.getPath(unit, by));
      Object constant = e instanceof VariableElement ? ((VariableElement) e).getConstantValue() : null;
      boolean literal = by.getKind() == Tree.Kind.INT_LITERAL && !by.toString().equals("0");
      boolean tested = method != null && tests(trees.getTree((ExecutableElement) method), by.toString());
      wants(at(tree) + by + " is looked at before it divides", literal || constant != null && !constant.equals(0) || tested);
    }

    private static boolean tests(Tree within, String what) {
      String text = within.toString();
      return List.of(what + " > 0", what + " <= 0", what + " == 0").stream().anyMatch(text::contains);
    }

    @Override
    public Void visitCompoundAssignment(CompoundAssignmentTree tree, Void none) {
      boolean divides = tree.getKind() == Tree.Kind.DIVIDE_ASSIGNMENT || tree.getKind() == Tree.Kind.REMAINDER_ASSIGNMENT;
      wants(at(tree) + "no /= or %=", !divides);
      wants(at(tree) + "a number is changed", typeOf(tree.getVariable()).getKind().isPrimitive());
      return super.visitCompoundAssignment(tree, none);
    }

    @Override
    public Void visitAssignment(AssignmentTree tree, Void none) {
      boolean number = typeOf(tree.getVariable()).getKind().isPrimitive();
      boolean made = method != null && method.getSimpleName().contentEquals("<init>");
      wants(at(tree) + "references are set in the constructor alone", number || made);
      return super.visitAssignment(tree, none);
    }

    @Override
    public Void visitArrayAccess(ArrayAccessTree tree, Void none) {
      TypeKind kind = typeOf(tree.getIndex()).getKind();
      wants(at(tree) + "an index is an int", kind == TypeKind.INT);
      return super.visitArrayAccess(tree, none);
    }

    @Override
    public Void visitMemberSelect(MemberSelectTree tree, Void none) {
      boolean allowed = !Arrays.asList("class", "this", "super").contains(tree.getIdentifier().toString());
      wants(at(tree) + tree, allowed);
      return super.visitMemberSelect(tree, none);
    }

    // ---- loops ----

    @Override
    public Void visitForLoop(ForLoopTree tree, Void none) {
      bounded(tree, tree.getCondition());
      wants(at(tree) + "a counter goes on by one", tree.getUpdate().size() == 1);
      return super.visitForLoop(tree, none);
    }

    @Override
    public Void visitWhileLoop(WhileLoopTree tree, Void none) {
      bounded(tree, tree.getCondition());
      return super.visitWhileLoop(tree, none);
    }

    @Override
    public Void visitDoWhileLoop(DoWhileLoopTree tree, Void none) {
      wants(at(tree) + "no do", false);
      return super.visitDoWhileLoop(tree, none);
    }

    @Override
    public Void visitEnhancedForLoop(EnhancedForLoopTree tree, Void none) {
      wants(at(tree) + "no for over a row", false);
      return super.visitEnhancedForLoop(tree, none);
    }

    /** The end can be seen from the loop's own lines: a bound stands in its condition, and none beside it by or. */
    private void bounded(Tree loop, ExpressionTree condition) {
      boolean[] found = {false, false};
      if (condition != null) {
        new TreePathScanner<Void, Void>() {
          @Override
          public Void visitBinary(BinaryTree tree, Void none) {
            found[0] |= ORDERS.contains(tree.getKind());
            found[1] |= tree.getKind() == Tree.Kind.CONDITIONAL_OR;
            return super.visitBinary(tree, none);
          }
        }.scan(TreePath.getPath(unit, condition), null);
      }
      wants(at(loop) + "a loop with a bound", found[0] && !found[1]);
    }
  }
}
