import com.sun.source.tree.AssertTree;
import com.sun.source.tree.BinaryTree;
import com.sun.source.tree.BlockTree;
import com.sun.source.tree.ClassTree;
import com.sun.source.tree.CompilationUnitTree;
import com.sun.source.tree.CompoundAssignmentTree;
import com.sun.source.tree.ImportTree;
import com.sun.source.tree.LambdaExpressionTree;
import com.sun.source.tree.LiteralTree;
import com.sun.source.tree.MemberReferenceTree;
import com.sun.source.tree.MethodInvocationTree;
import com.sun.source.tree.MethodTree;
import com.sun.source.tree.NewArrayTree;
import com.sun.source.tree.NewClassTree;
import com.sun.source.tree.SynchronizedTree;
import com.sun.source.tree.ThrowTree;
import com.sun.source.tree.Tree;
import com.sun.source.tree.TryTree;
import com.sun.source.tree.VariableTree;
import com.sun.source.tree.WhileLoopTree;
import com.sun.source.util.JavacTask;
import com.sun.source.util.TreePath;
import com.sun.source.util.TreePathScanner;
import com.sun.source.util.Trees;
import java.io.IOException;
import java.nio.file.Files;
import java.nio.file.Path;
import java.util.ArrayList;
import java.util.HashMap;
import java.util.HashSet;
import java.util.List;
import java.util.Map;
import java.util.Set;
import javax.lang.model.element.Element;
import javax.lang.model.element.ElementKind;
import javax.lang.model.element.ExecutableElement;
import javax.lang.model.element.Modifier;
import javax.lang.model.element.TypeElement;
import javax.lang.model.type.ArrayType;
import javax.lang.model.type.DeclaredType;
import javax.lang.model.type.TypeMirror;
import javax.tools.JavaCompiler;
import javax.tools.StandardJavaFileManager;
import javax.tools.ToolProvider;

/**
 * The rules of LANGUAGE.md that can be seen in the tree of the class; the face is FaceTest's. It allows what the
 * class uses today, which is less than the rules allow.
 */
final class LanguageTest extends TreePathScanner<Void, Void> {
  private static final Path SOURCE = Path.of("src/main/java/IrrigationDistrict.java");
  private static final Set<String> LIBRARY = Set.of("java.lang.Math.min", "java.lang.Math.max", "java.lang.Math.floorMod");
  private static final int MOST_CALLS_DEEP = 8;

  private final Trees trees;
  private final CompilationUnitTree unit;
  private final Map<Element, Set<Element>> calls = new HashMap<>();
  private int classes = 0;

  private LanguageTest(Trees trees, CompilationUnitTree unit) {
    this.trees = trees;
    this.unit = unit;
  }

  public static void main(String[] args) throws IOException {
    signs();
    JavaCompiler compiler = ToolProvider.getSystemJavaCompiler();
    try (StandardJavaFileManager files = compiler.getStandardFileManager(null, null, null)) {
      JavacTask task = (JavacTask) compiler.getTask(null, files, null, List.of("-proc:none"), null, files.getJavaFileObjects(SOURCE));
      List<CompilationUnitTree> units = new ArrayList<>();
      task.parse().forEach(units::add);
      task.analyze();
      Check.due("files", units.size(), 1);
      LanguageTest test = new LanguageTest(Trees.instance(task), units.get(0));
      test.scan(units.get(0), null);
      test.counts();
    }
    Check.finish();
  }

  private static void signs() throws IOException {
    for (byte sign : Files.readAllBytes(SOURCE)) {
      if (sign < 0) Check.holds("4: a sign outside 1 to 127 in the source", false);
    }
  }

  private void counts() {
    Check.holds("1: no package line", unit.getPackage() == null);
    Check.due("1: classes beside the public one", unit.getTypeDecls().size(), 1);
    Check.holds("11: " + classes + " classes are at most 12", classes <= 12);
    for (Element method : calls.keySet()) {
      int deep = depth(method, new HashSet<>());
      Check.holds("8, 11: " + method + " is no recursion and goes " + deep + " calls deep", deep <= MOST_CALLS_DEEP);
    }
  }

  private int depth(Element method, Set<Element> open) {
    if (!open.add(method)) return MOST_CALLS_DEEP + 1;
    int deepest = 0;
    for (Element called : calls.getOrDefault(method, Set.of())) {
      deepest = Math.max(deepest, depth(called, open));
    }
    open.remove(method);
    return deepest + 1;
  }

  private void never(String rule, Tree tree) {
    Check.holds(rule + ": line " + lineOf(tree) + ": " + tree, false);
  }

  private long lineOf(Tree tree) {
    return unit.getLineMap().getLineNumber(trees.getSourcePositions().getStartPosition(unit, tree));
  }

  private long lastLineOf(Tree tree) {
    return unit.getLineMap().getLineNumber(trees.getSourcePositions().getEndPosition(unit, tree));
  }

  private Element elementOf(Tree tree) {
    return trees.getElement(new TreePath(getCurrentPath().getParentPath(), tree));
  }

  private Element methodAround() {
    for (TreePath path = getCurrentPath(); path != null; path = path.getParentPath()) {
      if (path.getLeaf() instanceof MethodTree) return trees.getElement(path);
    }
    return null;
  }

  private static boolean isOwn(Element element) {
    Element type = element;
    while (type != null && !(type instanceof TypeElement outer && outer.getNestingKind().name().equals("TOP_LEVEL"))) {
      type = type.getEnclosingElement();
    }
    return type != null && type.getSimpleName().contentEquals("IrrigationDistrict");
  }

  private static boolean isAllowedType(TypeMirror type) {
    switch (type.getKind()) {
      case VOID, INT, LONG, SHORT, BYTE, CHAR, BOOLEAN:
        return true;
      case ARRAY:
        TypeMirror part = ((ArrayType) type).getComponentType();
        return !(part instanceof ArrayType) && isAllowedType(part);
      case DECLARED:
        Element named = ((DeclaredType) type).asElement();
        return isOwn(named) || named.toString().equals("java.lang.String");
      default:
        return false;
    }
  }

  @Override
  public Void visitClass(ClassTree tree, Void none) {
    classes++;
    int fields = 0;
    for (Tree member : tree.getMembers()) {
      if (member instanceof BlockTree) never("5: an initialiser block", member);
      if (member instanceof VariableTree field && !field.getModifiers().getFlags().contains(Modifier.STATIC)) fields++;
    }
    boolean isInside = getCurrentPath().getParentPath().getLeaf() instanceof ClassTree;
    if (isInside) Check.holds("2: " + tree.getSimpleName() + " is static", tree.getModifiers().getFlags().contains(Modifier.STATIC));
    else Check.holds("2: " + tree.getSimpleName() + " is no local class", getCurrentPath().getParentPath().getLeaf() == unit);
    Check.holds("11: " + fields + " fields of " + tree.getSimpleName() + " are at most 20", fields <= 20);
    return super.visitClass(tree, none);
  }

  @Override
  public Void visitVariable(VariableTree tree, Void none) {
    Element variable = trees.getElement(getCurrentPath());
    Check.holds("3: the type of " + variable, isAllowedType(variable.asType()));
    if (variable.getModifiers().contains(Modifier.STATIC)) {
      Check.holds("5: the static " + variable + " is final", variable.getModifiers().contains(Modifier.FINAL));
      Check.holds("5: the static " + variable + " is a number", variable.asType().getKind().isPrimitive());
    }
    return super.visitVariable(tree, none);
  }

  @Override
  public Void visitMethod(MethodTree tree, Void none) {
    ExecutableElement method = (ExecutableElement) trees.getElement(getCurrentPath());
    calls.putIfAbsent(method, new HashSet<>());
    String name = tree.getName().toString();
    long lines = lastLineOf(tree) - lineOf(tree) + 1;
    Check.holds("11: " + name + " has " + lines + " lines", lines <= 60);
    Check.holds("11: the parameters of " + name, tree.getParameters().size() <= 7);
    Check.holds("3: the type of " + name, isAllowedType(method.getReturnType()));
    Check.holds("6: " + name, !Set.of("equals", "hashCode", "toString").contains(name));
    return super.visitMethod(tree, none);
  }

  @Override
  public Void visitMethodInvocation(MethodInvocationTree tree, Void none) {
    Element called = elementOf(tree.getMethodSelect());
    Element caller = methodAround();
    boolean isSuper = called.getKind() == ElementKind.CONSTRUCTOR;
    if (isOwn(called) && caller != null) calls.computeIfAbsent(caller, method -> new HashSet<>()).add(called);
    else if (!isSuper) Check.holds("4: " + tree, LIBRARY.contains(called.getEnclosingElement() + "." + called.getSimpleName()));
    return super.visitMethodInvocation(tree, none);
  }

  @Override
  public Void visitNewClass(NewClassTree tree, Void none) {
    if (tree.getClassBody() != null) never("2: an anonymous class", tree);
    Element made = trees.getElement(getCurrentPath());
    Check.holds("4: " + tree + " is of an own class", isOwn(made));
    madeByNoCall(tree);
    return super.visitNewClass(tree, none);
  }

  @Override
  public Void visitNewArray(NewArrayTree tree, Void none) {
    madeByNoCall(tree);
    return super.visitNewArray(tree, none);
  }

  private void madeByNoCall(Tree tree) {
    Element maker = methodAround();
    Check.holds("README: " + tree + " is made by no call", maker == null || maker.getKind() == ElementKind.CONSTRUCTOR);
  }

  @Override
  public Void visitBinary(BinaryTree tree, Void none) {
    boolean isText = tree.getKind() == Tree.Kind.PLUS && !trees.getTypeMirror(getCurrentPath()).getKind().isPrimitive();
    if (isText) never("10: texts joined by +", tree);
    return super.visitBinary(tree, none);
  }

  @Override
  public Void visitCompoundAssignment(CompoundAssignmentTree tree, Void none) {
    if (!trees.getTypeMirror(getCurrentPath()).getKind().isPrimitive()) never("10: texts joined by +=", tree);
    return super.visitCompoundAssignment(tree, none);
  }

  @Override
  public Void visitLiteral(LiteralTree tree, Void none) {
    if (tree.getValue() instanceof Double || tree.getValue() instanceof Float) never("3: a number that is not whole", tree);
    return super.visitLiteral(tree, none);
  }

  @Override
  public Void visitImport(ImportTree tree, Void none) {
    never("4: an import", tree);
    return super.visitImport(tree, none);
  }

  @Override
  public Void visitWhileLoop(WhileLoopTree tree, Void none) {
    never("9: a loop without a counter", tree);
    return super.visitWhileLoop(tree, none);
  }

  @Override
  public Void visitLambdaExpression(LambdaExpressionTree tree, Void none) {
    never("2: a lambda", tree);
    return super.visitLambdaExpression(tree, none);
  }

  @Override
  public Void visitMemberReference(MemberReferenceTree tree, Void none) {
    never("2: a method reference", tree);
    return super.visitMemberReference(tree, none);
  }

  @Override
  public Void visitThrow(ThrowTree tree, Void none) {
    never("6: throw", tree);
    return super.visitThrow(tree, none);
  }

  @Override
  public Void visitTry(TryTree tree, Void none) {
    never("6: try", tree);
    return super.visitTry(tree, none);
  }

  @Override
  public Void visitSynchronized(SynchronizedTree tree, Void none) {
    never("6: synchronized", tree);
    return super.visitSynchronized(tree, none);
  }

  @Override
  public Void visitAssert(AssertTree tree, Void none) {
    never("6: assert", tree);
    return super.visitAssert(tree, none);
  }
}
