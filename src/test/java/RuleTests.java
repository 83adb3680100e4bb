import com.sun.source.tree.AssertTree;
import com.sun.source.tree.BinaryTree;
import com.sun.source.tree.BlockTree;
import com.sun.source.tree.ClassTree;
import com.sun.source.tree.CompilationUnitTree;
import com.sun.source.tree.ExpressionTree;
import com.sun.source.tree.ForLoopTree;
import com.sun.source.tree.ImportTree;
import com.sun.source.tree.LambdaExpressionTree;
import com.sun.source.tree.MemberReferenceTree;
import com.sun.source.tree.MethodInvocationTree;
import com.sun.source.tree.MethodTree;
import com.sun.source.tree.NewClassTree;
import com.sun.source.tree.SwitchTree;
import com.sun.source.tree.SynchronizedTree;
import com.sun.source.tree.ThrowTree;
import com.sun.source.tree.Tree;
import com.sun.source.tree.Tree.Kind;
import com.sun.source.tree.TryTree;
import com.sun.source.tree.TypeCastTree;
import com.sun.source.tree.VariableTree;
import com.sun.source.tree.WhileLoopTree;
import com.sun.source.util.JavacTask;
import com.sun.source.util.TreePath;
import com.sun.source.util.TreePathScanner;
import com.sun.source.util.TreeScanner;
import com.sun.source.util.Trees;
import java.io.IOException;
import java.nio.file.Files;
import java.nio.file.Path;
import java.util.HashMap;
import java.util.List;
import java.util.Map;
import java.util.Set;
import java.util.TreeSet;
import javax.lang.model.element.Element;
import javax.lang.model.element.ElementKind;
import javax.lang.model.element.ExecutableElement;
import javax.lang.model.element.Modifier;
import javax.lang.model.type.ArrayType;
import javax.lang.model.type.TypeKind;
import javax.lang.model.type.TypeMirror;
import javax.tools.JavaCompiler;
import javax.tools.StandardJavaFileManager;
import javax.tools.ToolProvider;

/**
 * The rules of LANGUAGE.md that can be seen in the class's text: what it is made of, what it calls, how deep calls go.
 * Another file may be named, so that one can try whether a rule that is broken in it is found.
 */
public final class RuleTests {
  private static final String SOURCE = "src/main/java/OwedFalls.java";
  private static final int MOST_PARAMETERS = 7;
  private static final int MOST_LINES = 60;
  private static final int MOST_DEEP = 8;
  private static final int MOST_CLASSES = 12;
  private static final int MOST_FIELDS = 20;
  private static final Set<String> LIBRARY = Set.of(
      "String.length", "String.charAt", "String.isEmpty", "String.equals", "String.indexOf", "String.substring",
      "String.toCharArray", "StringBuilder.append", "StringBuilder.charAt", "StringBuilder.setCharAt",
      "StringBuilder.setLength", "StringBuilder.deleteCharAt", "StringBuilder.reverse", "StringBuilder.length",
      "StringBuilder.toString", "Math.max", "Math.min", "Math.abs", "Math.floorDiv", "Math.floorMod",
      "Integer.compare", "Integer.bitCount", "Long.compare", "Long.bitCount", "System.arraycopy", "Arrays.fill",
      "Arrays.copyOf", "Arrays.copyOfRange");
  private static final Set<String> IMPORTS = Set.of("java.util.Arrays", "java.util.ArrayList", "java.util.List");
  private static int wrong = 0;

  public static void main(String[] args) throws IOException {
    String source = args.length > 0 ? args[0] : SOURCE;
    signsArePlain(source);
    JavaCompiler compiler = ToolProvider.getSystemJavaCompiler();
    try (StandardJavaFileManager files = compiler.getStandardFileManager(null, null, null)) {
      List<String> options = List.of("-proc:none");
      JavacTask task = (JavacTask) compiler.getTask(null, files, null, options, null, files.getJavaFileObjects(source));
      Iterable<? extends CompilationUnitTree> units = task.parse();
      task.analyze();
      for (CompilationUnitTree unit : units) {
        Reading reading = new Reading(Trees.instance(task), unit);
        reading.scan(unit, null);
        reading.end();
      }
    }
    System.out.println(wrong == 0 ? "the rules are kept" : wrong + " things are not as the rules have them");
    if (wrong != 0) {
      System.exit(1);
    }
  }

  private static void check(int rule, boolean holds, String what) {
    if (!holds) {
      wrong++;
      System.out.println("rule " + rule + ": " + what);
    }
  }

  private static void signsArePlain(String source) throws IOException {
    String text = Files.readString(Path.of(source));
    check(4, text.chars().allMatch(sign -> sign > 0 && sign < 128), "plain signs alone");
    check(1, !text.startsWith("package"), "no package line");
  }

  /** Goes over the whole text once and keeps what is called where. */
  private static final class Reading extends TreePathScanner<Void, Void> {
    final Trees trees;
    final CompilationUnitTree unit;
    final Map<String, Set<String>> calls = new HashMap<>();
    final Map<String, ExecutableElement> methods = new HashMap<>();
    final Set<String> publicNames = new TreeSet<>();
    int classes = 0;
    String method = null;
    MethodTree methodTree = null;

    Reading(Trees trees, CompilationUnitTree unit) {
      this.trees = trees;
      this.unit = unit;
    }

    private Element here() {
      return trees.getElement(getCurrentPath());
    }

    private TypeMirror typeOf(Tree tree) {
      return trees.getTypeMirror(new TreePath(getCurrentPath(), tree));
    }

    private String place(Tree tree) {
      long at = trees.getSourcePositions().getStartPosition(unit, tree);
      return "line " + unit.getLineMap().getLineNumber(at) + ": ";
    }

    private long linesOf(Tree tree) {
      long first = unit.getLineMap().getLineNumber(trees.getSourcePositions().getStartPosition(unit, tree));
      return unit.getLineMap().getLineNumber(trees.getSourcePositions().getEndPosition(unit, tree)) - first + 1;
    }

    private static String nameOf(Element method) {
      return method.getEnclosingElement().getSimpleName() + "." + method;
    }

    private static boolean isOwn(TypeMirror type) {
      return type.toString().startsWith("OwedFalls");
    }

    private void forbid(int rule, Tree tree, String what) {
      check(rule, false, place(tree) + what);
    }

    @Override public Void visitImport(ImportTree node, Void none) {
      check(4, IMPORTS.contains(node.getQualifiedIdentifier().toString()), place(node) + node);
      return super.visitImport(node, none);
    }

    @Override public Void visitClass(ClassTree node, Void none) {
      classes++;
      Element c = here();
      boolean isOutermost = getCurrentPath().getParentPath().getLeaf() instanceof CompilationUnitTree;
      boolean isInside = getCurrentPath().getParentPath().getLeaf() instanceof ClassTree;
      check(2, isOutermost || isInside, place(node) + "a class inside a method");
      check(2, isOutermost || c.getModifiers().contains(Modifier.STATIC), place(node) + "an inner class that isn't static");
      check(1, isOutermost || !c.getModifiers().contains(Modifier.PUBLIC) && !c.getModifiers().contains(Modifier.PROTECTED),
          place(node) + "an inner class is open");
      int fields = 0;
      for (Tree member : node.getMembers()) {
        boolean isStaticBlock = member instanceof BlockTree && ((BlockTree) member).isStatic();
        check(5, !isStaticBlock, place(member) + "a static initialiser block");
        if (member instanceof VariableTree && !((VariableTree) member).getModifiers().getFlags().contains(Modifier.STATIC)) {
          fields++;
        }
        if (isOutermost && member instanceof MethodTree) {
          notePublicName((MethodTree) member);
        }
      }
      check(11, fields <= MOST_FIELDS, place(node) + fields + " fields");
      return super.visitClass(node, none);
    }

    private void notePublicName(MethodTree member) {
      boolean isConstructor = member.getReturnType() == null;
      if (!isConstructor && member.getModifiers().getFlags().contains(Modifier.PUBLIC)) {
        publicNames.add(member.getName().toString());
      }
    }

    @Override public Void visitMethod(MethodTree node, Void none) {
      ExecutableElement element = (ExecutableElement) here();
      String name = nameOf(element);
      check(11, node.getParameters().size() <= MOST_PARAMETERS, place(node) + name + " takes too many parameters");
      check(11, linesOf(node) <= MOST_LINES, place(node) + name + " is too long");
      boolean isPrivate = element.getModifiers().contains(Modifier.PRIVATE);
      check(1, !isPrivate || !publicNames.contains(node.getName().toString()), place(node) + name + " bears a public name");
      methods.put(name, element);
      method = name;
      methodTree = node;
      calls.computeIfAbsent(name, key -> new TreeSet<>());
      super.visitMethod(node, none);
      method = null;
      methodTree = null;
      return null;
    }

    @Override public Void visitVariable(VariableTree node, Void none) {
      Element v = here();
      check(3, v == null || isAllowed(v.asType()), place(node) + "the type of " + node.getName());
      if (v != null && v.getKind() == ElementKind.FIELD && v.getModifiers().contains(Modifier.STATIC)) {
        check(5, v.getModifiers().contains(Modifier.FINAL) && isConstant(v.asType()), place(node) + "the static " + node.getName());
      }
      return super.visitVariable(node, none);
    }

    private static boolean isAllowed(TypeMirror type) {
      if (type.getKind() == TypeKind.ARRAY) {
        TypeMirror part = ((ArrayType) type).getComponentType();
        if (part.getKind() == TypeKind.ARRAY) {
          return ((ArrayType) part).getComponentType().getKind().isPrimitive();
        }
        return part.getKind().isPrimitive() || isOwn(part);
      }
      return type.getKind().isPrimitive() || isOwn(type) || isText(type);
    }

    private static boolean isText(TypeMirror type) {
      return type.toString().equals("java.lang.String") || type.toString().equals("java.lang.StringBuilder");
    }

    private static boolean isConstant(TypeMirror type) {
      return Set.of("int", "long", "boolean", "char", "java.lang.String", "int[]", "long[]", "char[]", "byte[]").contains(type.toString());
    }

    @Override public Void visitMethodInvocation(MethodInvocationTree node, Void none) {
      Element called = trees.getElement(new TreePath(getCurrentPath(), node.getMethodSelect()));
      if (called instanceof ExecutableElement && !called.getSimpleName().contentEquals("<init>")) {
        noteCall(node, called);
      }
      return super.visitMethodInvocation(node, none);
    }

    private void noteCall(MethodInvocationTree node, Element called) {
      String name = nameOf(called);
      if (method != null) {
        calls.get(method).add(name);
      }
      if (!isOwn(called.getEnclosingElement().asType())) {
        String plain = called.getEnclosingElement().getSimpleName() + "." + called.getSimpleName();
        check(4, LIBRARY.contains(plain), place(node) + plain);
        check(4, !plain.startsWith("Arrays.") || isOfNumbers(node), place(node) + plain + " of what are no numbers");
      }
      if (name.equals(method)) {
        check(8, goesDeeper(node), place(node) + name + " calls itself without a depth that grows");
      }
    }

    private boolean isOfNumbers(MethodInvocationTree node) {
      TypeMirror type = node.getArguments().isEmpty() ? null : typeOf(node.getArguments().get(0));
      if (type == null || type.getKind() != TypeKind.ARRAY) {
        return false;
      }
      TypeKind part = ((ArrayType) type).getComponentType().getKind();
      return part.isPrimitive() && part != TypeKind.BOOLEAN;
    }

    /** Whether one of the method's own parameters is handed on as one more. */
    private boolean goesDeeper(MethodInvocationTree node) {
      for (int i = 0; i < node.getArguments().size() && i < methodTree.getParameters().size(); i++) {
        String one = methodTree.getParameters().get(i).getName() + " + 1";
        if (node.getArguments().get(i).toString().equals(one)) {
          return true;
        }
      }
      return false;
    }

    @Override public Void visitNewClass(NewClassTree node, Void none) {
      check(2, node.getClassBody() == null, place(node) + "a class without a name");
      TypeMirror type = typeOf(node.getIdentifier());
      check(4, isOwn(type) || isText(type), place(node) + "new " + type);
      Element made = here();
      if (method != null && made != null) {
        calls.get(method).add(nameOf(made));
      }
      return super.visitNewClass(node, none);
    }

    @Override public Void visitBinary(BinaryTree node, Void none) {
      boolean ofTexts = isObject(node.getLeftOperand()) && isObject(node.getRightOperand());
      switch (node.getKind()) {
        case PLUS:
          check(10, !isObject(node.getLeftOperand()) && !isObject(node.getRightOperand()), place(node) + "texts joined by +");
          break;
        case EQUAL_TO: case NOT_EQUAL_TO:
          check(6, !ofTexts, place(node) + "texts compared by == or !=");
          break;
        case DIVIDE: case REMAINDER:
          check(7, isSafe(node.getRightOperand()), place(node) + "a divisor that was not looked at");
          break;
        default:
          break;
      }
      return super.visitBinary(node, none);
    }

    private boolean isObject(Tree operand) {
      return Set.of("java.lang.String", "java.lang.Integer").contains(typeOf(operand).toString());
    }

    /** A constant that is not 0, or a name that its method compares with 0. */
    private boolean isSafe(ExpressionTree divisor) {
      Element element = trees.getElement(new TreePath(getCurrentPath(), divisor));
      if (divisor.getKind() == Kind.INT_LITERAL) {
        return !divisor.toString().equals("0");
      }
      if (element instanceof javax.lang.model.element.VariableElement) {
        Object value = ((javax.lang.model.element.VariableElement) element).getConstantValue();
        return value instanceof Integer ? (Integer) value != 0 : comparesWithZero(divisor.toString());
      }
      return false;
    }

    private boolean comparesWithZero(String name) {
      boolean[] found = {false};
      new TreeScanner<Void, Void>() {
        @Override public Void visitBinary(BinaryTree node, Void none) {
          Kind kind = node.getKind();
          boolean compares = kind == Kind.NOT_EQUAL_TO || kind == Kind.EQUAL_TO || kind == Kind.LESS_THAN_EQUAL || kind == Kind.GREATER_THAN;
          if (compares && node.getLeftOperand().toString().equals(name) && node.getRightOperand().toString().equals("0")) {
            found[0] = true;
          }
          return super.visitBinary(node, none);
        }
      }.scan(methodTree, null);
      return found[0];
    }

    @Override public Void visitForLoop(ForLoopTree node, Void none) {
      check(9, hasBound(node.getCondition()), place(node) + "a loop without an end that can be seen");
      return super.visitForLoop(node, none);
    }

    @Override public Void visitWhileLoop(WhileLoopTree node, Void none) {
      check(9, hasBound(node.getCondition()), place(node) + "a loop without an end that can be seen");
      return super.visitWhileLoop(node, none);
    }

    private static boolean hasBound(Tree condition) {
      boolean[] found = {false};
      new TreeScanner<Void, Void>() {
        @Override public Void visitBinary(BinaryTree node, Void none) {
          found[0] |= Set.of(Kind.LESS_THAN, Kind.LESS_THAN_EQUAL, Kind.GREATER_THAN, Kind.GREATER_THAN_EQUAL).contains(node.getKind());
          return super.visitBinary(node, none);
        }
      }.scan(condition, null);
      return found[0];
    }

    @Override public Void visitSwitch(SwitchTree node, Void none) {
      TypeMirror type = typeOf(node.getExpression());
      check(10, type == null || !isText(type), place(node) + "a switch on a text");
      return super.visitSwitch(node, none);
    }

    @Override public Void visitTypeCast(TypeCastTree node, Void none) {
      TypeMirror type = typeOf(node.getType());
      check(6, type.getKind().isPrimitive() || isOwn(type), place(node) + "a cast to " + type);
      return super.visitTypeCast(node, none);
    }

    @Override public Void visitLambdaExpression(LambdaExpressionTree node, Void none) {
      forbid(2, node, "a lambda");
      return super.visitLambdaExpression(node, none);
    }

    @Override public Void visitMemberReference(MemberReferenceTree node, Void none) {
      forbid(2, node, "a method reference");
      return super.visitMemberReference(node, none);
    }

    @Override public Void visitThrow(ThrowTree node, Void none) {
      forbid(6, node, "throw");
      return super.visitThrow(node, none);
    }

    @Override public Void visitTry(TryTree node, Void none) {
      forbid(6, node, "try");
      return super.visitTry(node, none);
    }

    @Override public Void visitSynchronized(SynchronizedTree node, Void none) {
      forbid(6, node, "synchronized");
      return super.visitSynchronized(node, none);
    }

    @Override public Void visitAssert(AssertTree node, Void none) {
      forbid(6, node, "assert");
      return super.visitAssert(node, none);
    }

    void end() {
      check(11, classes <= MOST_CLASSES, classes + " classes");
      check(11, classes > 1 && calls.size() > 20, "the class was read");
      for (String name : methods.keySet()) {
        if (calls.get(name).contains(name)) {
          Set<Modifier> flags = methods.get(name).getModifiers();
          check(8, flags.contains(Modifier.PRIVATE) && flags.contains(Modifier.STATIC), name + " calls itself, but is no private static method");
        }
        int deep = depthOf(name, 1);
        check(11, deep <= MOST_DEEP, "calls from " + name + " go " + deep + " deep");
      }
    }

    /** A call of a method by itself is a recursion, and counts once; a longer ring would be without an end here. */
    private int depthOf(String name, int depth) {
      int deepest = depth;
      if (depth > 2 * MOST_DEEP) {
        return depth;
      }
      for (String called : calls.getOrDefault(name, Set.of())) {
        if (!called.equals(name)) {
          deepest = Math.max(deepest, depthOf(called, depth + 1));
        }
      }
      return deepest;
    }
  }
}
