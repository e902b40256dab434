import com.sun.source.tree.ArrayAccessTree;
import com.sun.source.tree.AssertTree;
import com.sun.source.tree.AssignmentTree;
import com.sun.source.tree.BinaryTree;
import com.sun.source.tree.BlockTree;
import com.sun.source.tree.ClassTree;
import com.sun.source.tree.CompilationUnitTree;
import com.sun.source.tree.CompoundAssignmentTree;
import com.sun.source.tree.DoWhileLoopTree;
import com.sun.source.tree.ExpressionTree;
import com.sun.source.tree.ForLoopTree;
import com.sun.source.tree.ImportTree;
import com.sun.source.tree.LambdaExpressionTree;
import com.sun.source.tree.LiteralTree;
import com.sun.source.tree.MemberReferenceTree;
import com.sun.source.tree.MethodInvocationTree;
import com.sun.source.tree.MethodTree;
import com.sun.source.tree.NewArrayTree;
import com.sun.source.tree.NewClassTree;
import com.sun.source.tree.SwitchTree;
import com.sun.source.tree.SynchronizedTree;
import com.sun.source.tree.ThrowTree;
import com.sun.source.tree.Tree;
import com.sun.source.tree.TryTree;
import com.sun.source.tree.TypeCastTree;
import com.sun.source.tree.UnaryTree;
import com.sun.source.tree.VariableTree;
import com.sun.source.tree.WhileLoopTree;
import com.sun.source.util.JavacTask;
import com.sun.source.util.TreePath;
import com.sun.source.util.TreePathScanner;
import com.sun.source.util.Trees;
import java.io.File;
import java.io.IOException;
import java.lang.reflect.Modifier;
import java.nio.file.Files;
import java.nio.file.Path;
import java.util.ArrayList;
import java.util.Arrays;
import java.util.HashMap;
import java.util.HashSet;
import java.util.List;
import java.util.Map;
import java.util.Set;
import java.util.TreeMap;
import java.util.TreeSet;
import java.util.regex.Matcher;
import java.util.regex.Pattern;
import javax.lang.model.element.Element;
import javax.lang.model.element.ElementKind;
import javax.lang.model.element.ExecutableElement;
import javax.lang.model.element.TypeElement;
import javax.lang.model.type.TypeKind;
import javax.lang.model.type.TypeMirror;
import javax.tools.JavaCompiler;
import javax.tools.JavaFileObject;
import javax.tools.StandardJavaFileManager;
import javax.tools.ToolProvider;

/** The program keeps to the rules of ../shared/LANGUAGE.md that can be seen in its text, and to the document's face. */
public final class LanguageTest extends TreePathScanner<Void, Void> {
  private static final Path PROGRAM = Path.of("src/main/java/KeelHouse.java");
  private static final Path DOCUMENT = Path.of("../shared/DOC.md");
  private static final Set<String> EXCEPTIONS = Set.of("IllegalStateException", "IllegalArgumentException",
      "IndexOutOfBoundsException", "ArithmeticException", "UnsupportedOperationException", "NoSuchElementException",
      "RuntimeException");
  private static final Map<String, Set<String>> LIBRARY = Map.of(
      "java.lang.String", Set.of("length", "charAt", "isEmpty", "equals", "indexOf", "substring", "toCharArray"),
      "java.lang.StringBuilder", Set.of("append", "charAt", "setCharAt", "setLength", "deleteCharAt", "reverse",
          "length", "toString"),
      "java.util.ArrayList", Set.of("add", "get", "set", "remove", "size", "isEmpty", "clear"),
      "java.util.List", Set.of("add", "get", "set", "remove", "size", "isEmpty", "clear", "of"),
      "java.lang.Integer", Set.of("compare", "max", "min", "bitCount"),
      "java.lang.Long", Set.of("compare", "max", "min", "bitCount"),
      "java.lang.Math", Set.of("max", "min", "abs", "floorDiv", "floorMod"),
      "java.lang.System", Set.of("arraycopy"),
      "java.util.Arrays", Set.of("fill", "copyOf", "copyOfRange"));

  private final Trees trees;
  private final CompilationUnitTree unit;
  private final String source;
  private final List<String> wrong = new ArrayList<>();
  private final Map<String, Set<String>> calls = new TreeMap<>();
  private final Set<String> constructors = new HashSet<>();
  private String method = "";
  private int classes;

  private LanguageTest(Trees trees, CompilationUnitTree unit, String source) {
    this.trees = trees;
    this.unit = unit;
    this.source = source;
  }

  public static void main(String[] args) throws IOException {
    JavaCompiler compiler = ToolProvider.getSystemJavaCompiler();
    StandardJavaFileManager files = compiler.getStandardFileManager(null, null, null);
    Iterable<? extends JavaFileObject> program = files.getJavaFileObjects(new File(PROGRAM.toString()));
    JavacTask task = (JavacTask) compiler.getTask(null, files, null, List.of("-proc:none"), null, program);
    CompilationUnitTree unit = task.parse().iterator().next();
    task.analyze();
    LanguageTest test = new LanguageTest(Trees.instance(task), unit, Files.readString(PROGRAM));
    test.scan(unit, null);
    test.deepest();
    test.signs();
    test.face();
    for (String line : test.wrong) {
      System.out.println(line);
    }
    if (!test.wrong.isEmpty()) {
      System.exit(1);
    }
  }

  private long lineOf(long position) {
    return unit.getLineMap().getLineNumber(position);
  }

  private void say(Tree tree, String what) {
    wrong.add("line " + lineOf(trees.getSourcePositions().getStartPosition(unit, tree)) + ": " + what);
  }

  private TypeMirror typeOf(Tree tree) {
    return trees.getTypeMirror(new TreePath(getCurrentPath(), tree));
  }

  private static boolean isText(TypeMirror type) {
    return type != null && type.toString().equals("java.lang.String");
  }

  private static boolean isFloating(TypeMirror type) {
    return type != null && (type.getKind() == TypeKind.DOUBLE || type.getKind() == TypeKind.FLOAT);
  }

  @Override
  public Void visitImport(ImportTree tree, Void none) {
    String name = tree.getQualifiedIdentifier().toString();
    if (!Set.of("java.util.Arrays", "java.util.ArrayList", "java.util.List", "java.util.Iterator",
        "java.util.NoSuchElementException").contains(name)) {
      say(tree, "rule 4: import of " + name);
    }
    return super.visitImport(tree, none);
  }

  @Override
  public Void visitClass(ClassTree tree, Void none) {
    classes++;
    if (classes > 12) {
      say(tree, "rule 11: the class " + classes);
    }
    int fields = 0;
    for (Tree member : tree.getMembers()) {
      if (member instanceof VariableTree) {
        fields += ((VariableTree) member).getModifiers().getFlags().toString().contains("static") ? 0 : 1;
      }
    }
    if (fields > 20) {
      say(tree, "rule 11: " + fields + " fields in " + tree.getSimpleName());
    }
    if (!tree.getSimpleName().contentEquals("KeelHouse")
        && !tree.getModifiers().toString().contains("static")) {
      say(tree, "rule 2: a class inside that is not static");
    }
    return super.visitClass(tree, none);
  }

  @Override
  public Void visitMethod(MethodTree tree, Void none) {
    String before = method;
    ExecutableElement element = (ExecutableElement) trees.getElement(getCurrentPath());
    method = nameOf(element);
    calls.computeIfAbsent(method, k -> new TreeSet<>());
    if (element.getKind() == ElementKind.CONSTRUCTOR) {
      constructors.add(method);
    }
    if (tree.getParameters().size() > 7) {
      say(tree, "rule 11: more than seven parameters");
    }
    long first = lineOf(trees.getSourcePositions().getStartPosition(unit, tree));
    long last = lineOf(trees.getSourcePositions().getEndPosition(unit, tree));
    if (last - first + 1 > 60) {
      say(tree, "rule 11: " + (last - first + 1) + " lines");
    }
    Void result = super.visitMethod(tree, none);
    method = before;
    return result;
  }

  private static String nameOf(ExecutableElement element) {
    String owner = ((TypeElement) element.getEnclosingElement()).getSimpleName().toString();
    return owner + "." + element;
  }

  @Override
  public Void visitVariable(VariableTree tree, Void none) {
    Element element = trees.getElement(getCurrentPath());
    String type = element.asType().toString();
    String part = type.replace("[]", "");
    boolean isOwn = part.startsWith("KeelHouse") || part.startsWith("java.util.ArrayList<")
        || part.startsWith("java.util.List<");
    if (!isOwn && !Set.of("int", "long", "short", "byte", "char", "boolean", "double", "float", "java.lang.String",
        "java.lang.StringBuilder", "java.lang.Integer").contains(part)) {
      say(tree, "rule 3: the type " + type);
    }
    boolean isStatic = tree.getModifiers().toString().contains("static");
    if (isStatic && (!tree.getModifiers().toString().contains("final")
        || !Set.of("int", "long", "boolean", "char", "java.lang.String", "int[]", "long[]", "char[]", "byte[]")
            .contains(type))) {
      say(tree, "rule 5: the static field " + tree.getName());
    }
    if (isStatic && type.endsWith("[]") && (!(tree.getInitializer() instanceof NewArrayTree)
        || ((NewArrayTree) tree.getInitializer()).getInitializers() == null)) {
      say(tree, "rule 5: " + tree.getName() + " is not written out");
    }
    if (type.endsWith("[][]") && isOwn || type.endsWith("[][][]")) {
      say(tree, "rule 3: the dimensions of " + type);
    }
    return super.visitVariable(tree, none);
  }

  @Override
  public Void visitBlock(BlockTree tree, Void none) {
    if (tree.isStatic()) {
      say(tree, "rule 5: a static initialiser block");
    }
    return super.visitBlock(tree, none);
  }

  /** What a static row holds is never changed. */
  private void written(ExpressionTree target) {
    if (target instanceof ArrayAccessTree) {
      ExpressionTree row = ((ArrayAccessTree) target).getExpression();
      Element element = trees.getElement(new TreePath(getCurrentPath(), row));
      if (element != null && element.getModifiers().contains(javax.lang.model.element.Modifier.STATIC)) {
        say(target, "rule 5: " + row + " is changed");
      }
    }
  }

  @Override
  public Void visitAssignment(AssignmentTree tree, Void none) {
    written(tree.getVariable());
    return super.visitAssignment(tree, none);
  }

  @Override
  public Void visitUnary(UnaryTree tree, Void none) {
    if (!Set.of(Tree.Kind.UNARY_MINUS, Tree.Kind.LOGICAL_COMPLEMENT, Tree.Kind.BITWISE_COMPLEMENT)
        .contains(tree.getKind())) {
      written(tree.getExpression());
    }
    return super.visitUnary(tree, none);
  }

  @Override
  public Void visitTypeCast(TypeCastTree tree, Void none) {
    if (!typeOf(tree.getType()).getKind().isPrimitive()) {
      say(tree, "rule 7: a cast of an object");
    }
    return super.visitTypeCast(tree, none);
  }

  @Override
  public Void visitSwitch(SwitchTree tree, Void none) {
    TypeMirror type = typeOf(tree.getExpression());
    if (isText(type)) {
      say(tree, "rule 10: a switch on a text");
    }
    return super.visitSwitch(tree, none);
  }

  private void bound(Tree loop, ExpressionTree condition) {
    if (condition == null || condition.toString().replace("(", "").replace(")", "").equals("true")) {
      say(loop, "rule 9: a loop without an end of its own");
    }
  }

  @Override
  public Void visitForLoop(ForLoopTree tree, Void none) {
    bound(tree, tree.getCondition());
    return super.visitForLoop(tree, none);
  }

  @Override
  public Void visitWhileLoop(WhileLoopTree tree, Void none) {
    bound(tree, tree.getCondition());
    return super.visitWhileLoop(tree, none);
  }

  @Override
  public Void visitDoWhileLoop(DoWhileLoopTree tree, Void none) {
    bound(tree, tree.getCondition());
    return super.visitDoWhileLoop(tree, none);
  }

  @Override
  public Void visitMethodInvocation(MethodInvocationTree tree, Void none) {
    ExecutableElement called = (ExecutableElement) trees.getElement(getCurrentPath());
    TypeElement owner = (TypeElement) called.getEnclosingElement();
    String from = owner.getQualifiedName().toString();
    String name = called.getSimpleName().toString();
    calls.computeIfAbsent(method, k -> new TreeSet<>()).add(nameOf(called));
    if (!from.startsWith("KeelHouse") && !name.equals("<init>")
        && !LIBRARY.getOrDefault(from, Set.of()).contains(name)) {
      say(tree, "rule 4: " + from + "." + name);
    }
    for (ExpressionTree argument : tree.getArguments()) {
      if (from.equals("java.lang.Math") && isFloating(typeOf(argument))) {
        say(tree, "rule 3: Math on doubles");
      }
    }
    return super.visitMethodInvocation(tree, none);
  }

  @Override
  public Void visitNewClass(NewClassTree tree, Void none) {
    ExecutableElement made = (ExecutableElement) trees.getElement(getCurrentPath());
    String type = made.getEnclosingElement().toString();
    calls.computeIfAbsent(method, k -> new TreeSet<>()).add(nameOf(made));
    if (!type.startsWith("KeelHouse") && !EXCEPTIONS.contains(type.substring(type.lastIndexOf('.') + 1))
        && !Set.of("java.lang.StringBuilder", "java.util.ArrayList", "java.lang.String").contains(type)) {
      say(tree, "rule 4: new " + type);
    }
    return super.visitNewClass(tree, none);
  }

  @Override
  public Void visitThrow(ThrowTree tree, Void none) {
    boolean isMade = tree.getExpression() instanceof NewClassTree;
    if (!isMade || !EXCEPTIONS.contains(((NewClassTree) tree.getExpression()).getIdentifier().toString())) {
      say(tree, "rule 6: " + tree);
    }
    if (constructors.contains(method)) {
      say(tree, "rule 6: a throw in a constructor");
    }
    return super.visitThrow(tree, none);
  }

  @Override
  public Void visitBinary(BinaryTree tree, Void none) {
    boolean isText = isText(typeOf(tree.getLeftOperand())) || isText(typeOf(tree.getRightOperand()));
    if (isText && tree.getKind() != Tree.Kind.EQUAL_TO && tree.getKind() != Tree.Kind.NOT_EQUAL_TO) {
      say(tree, "rule 10: texts joined by +");
    }
    boolean isCompared = tree.getKind() == Tree.Kind.EQUAL_TO || tree.getKind() == Tree.Kind.NOT_EQUAL_TO;
    if (isCompared && (isNamed(tree.getLeftOperand()) && isNamed(tree.getRightOperand()))) {
      say(tree, "rule 6: texts or Integers compared by " + tree);
    }
    if (tree.getKind() == Tree.Kind.REMAINDER && isFloating(typeOf(tree))) {
      say(tree, "rule 3: % on doubles");
    }
    return super.visitBinary(tree, none);
  }

  private boolean isNamed(ExpressionTree tree) {
    TypeMirror type = typeOf(tree);
    return isText(type) || type != null && type.toString().equals("java.lang.Integer");
  }

  @Override
  public Void visitCompoundAssignment(CompoundAssignmentTree tree, Void none) {
    written(tree.getVariable());
    if (isText(typeOf(tree.getVariable()))) {
      say(tree, "rule 10: texts joined by +=");
    }
    return super.visitCompoundAssignment(tree, none);
  }

  @Override
  public Void visitLiteral(LiteralTree tree, Void none) {
    if (tree.getValue() instanceof String) {
      for (char sign : ((String) tree.getValue()).toCharArray()) {
        if (sign < 1 || sign > 127) {
          say(tree, "rule 4: the sign " + (int) sign);
        }
      }
    }
    return super.visitLiteral(tree, none);
  }

  @Override
  public Void visitLambdaExpression(LambdaExpressionTree tree, Void none) {
    say(tree, "rule 2: a lambda");
    return null;
  }

  @Override
  public Void visitMemberReference(MemberReferenceTree tree, Void none) {
    say(tree, "rule 2: a method reference");
    return null;
  }

  @Override
  public Void visitSynchronized(SynchronizedTree tree, Void none) {
    say(tree, "rule 6: synchronized");
    return null;
  }

  @Override
  public Void visitAssert(AssertTree tree, Void none) {
    say(tree, "rule 6: assert");
    return null;
  }

  @Override
  public Void visitTry(TryTree tree, Void none) {
    if (tree.getFinallyBlock() != null || !tree.getResources().isEmpty()) {
      say(tree, "rule 6: finally, or resources");
    }
    return super.visitTry(tree, none);
  }

  /** No recursion, and no chain of own calls longer than eight. */
  private void deepest() {
    Map<String, Integer> known = new HashMap<>();
    for (String name : calls.keySet()) {
      int depth = depth(name, known, new ArrayList<>());
      if (depth > 8) {
        wrong.add("rule 11: calls go " + depth + " deep from " + name);
      }
    }
  }

  private int depth(String name, Map<String, Integer> known, List<String> open) {
    if (!calls.containsKey(name)) {
      return 0;
    }
    if (open.contains(name)) {
      wrong.add("rule 8: recursion by " + open + ", " + name);
      return 0;
    }
    if (!known.containsKey(name)) {
      open.add(name);
      int most = 0;
      for (String next : calls.get(name)) {
        most = Math.max(most, depth(next, known, open));
      }
      open.remove(name);
      known.put(name, most + 1);
    }
    return known.get(name);
  }

  private void signs() {
    for (String word : List.of("@SuppressWarnings", "goto", "native ", "transient", "volatile")) {
      if (source.contains(word)) {
        wrong.add("the program has " + word);
      }
    }
  }

  /** Rule 1: what is public is what the document's face tells, and no private method bears a public one's name. */
  private void face() throws IOException {
    Set<String> due = new TreeSet<>();
    String text = Files.readString(DOCUMENT);
    Matcher told = Pattern.compile("(?m)^    public (\\w+) (\\w+)\\((.*?)\\)(.*);$").matcher(text);
    Set<String> names = new HashSet<>();
    while (told.find()) {
      String parameters = told.group(3).replaceAll(" \\w+(, |$)", "$1");
      due.add(told.group(1) + " " + told.group(2) + "(" + parameters + ")" + told.group(4));
      names.add(told.group(2));
    }
    Set<String> got = new TreeSet<>();
    for (java.lang.reflect.Method m : KeelHouse.class.getDeclaredMethods()) {
      if (Modifier.isPublic(m.getModifiers())) {
        got.add(line(m));
      } else if (names.contains(m.getName())) {
        wrong.add("rule 1: the private method " + m.getName());
      } else if (!Modifier.isPrivate(m.getModifiers())) {
        wrong.add("rule 1: the method " + m.getName() + " is not private");
      }
    }
    if (!due.equals(got) || due.isEmpty()) {
      wrong.add("rule 1: the face is " + got + ", due is " + due);
    }
    for (java.lang.reflect.Field f : KeelHouse.class.getDeclaredFields()) {
      if (!Modifier.isPrivate(f.getModifiers())) {
        wrong.add("rule 1: the field " + f.getName());
      }
    }
    if (KeelHouse.class.getDeclaredConstructors().length != 1 || !Modifier.isFinal(KeelHouse.class.getModifiers())) {
      wrong.add("rule 1: the class or its constructor");
    }
  }

  private static String line(java.lang.reflect.Method m) {
    StringBuilder line = new StringBuilder(m.getReturnType().getSimpleName() + " " + m.getName() + "(");
    Arrays.stream(m.getParameterTypes()).forEach(t -> line.append(t.getSimpleName()).append(", "));
    if (m.getParameterCount() > 0) {
      line.setLength(line.length() - 2);
    }
    line.append(")");
    String before = " throws ";
    for (Class<?> e : m.getExceptionTypes()) {
      line.append(before).append(e.getSimpleName());
      before = ", ";
    }
    return line.toString();
  }
}
