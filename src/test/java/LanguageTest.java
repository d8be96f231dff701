import com.sun.source.tree.*;
import com.sun.source.util.*;
import java.io.File;
import java.util.*;
import javax.lang.model.element.*;
import javax.lang.model.type.*;
import javax.tools.*;

/** Looks at the class by the rules of ../shared/LANGUAGE.md that can be seen in its text. */
final class LanguageTest extends TreePathScanner<Void, Void> {
  private static final int MOST_DEEP = 8, MOST_LINES = 60, MOST_CLASSES = 12, MOST_FIELDS = 22, MOST_PARAMETERS = 7;
  private static final Set<String> IMPORTS = Set.of("java.util.ArrayList", "java.util.List", "java.util.Arrays",
      "java.util.Iterator", "java.util.NoSuchElementException");
  private static final Set<String> EXCEPTIONS = Set.of("IllegalStateException", "IllegalArgumentException",
      "IndexOutOfBoundsException", "ArithmeticException", "UnsupportedOperationException",
      "NoSuchElementException", "RuntimeException");
  private static final Set<String> LIBRARY = Set.of("java.lang.String.length", "java.lang.String.charAt",
      "java.lang.String.isEmpty", "java.lang.String.equals", "java.lang.String.indexOf",
      "java.lang.String.substring", "java.lang.String.toCharArray", "java.lang.Math.min", "java.lang.Math.max",
      "java.lang.Math.abs", "java.lang.System.arraycopy", "java.util.Arrays.copyOf",
      "java.util.Arrays.copyOfRange", "java.util.Arrays.fill", "java.util.ArrayList.add",
      "java.util.ArrayList.get", "java.util.ArrayList.set", "java.util.ArrayList.remove",
      "java.util.ArrayList.size", "java.util.ArrayList.isEmpty", "java.util.ArrayList.clear");
  private static final Set<String> MADE = Set.of("java.util.ArrayList", "java.lang.StringBuilder");
  private static final String[] FACE = {
    "type", "put", "piece", "clear", "sum", "addHost", "setMtu", "hostAt", "tableAt", "deliver", "lose", "twice",
    "spoil", "frameAt", "byteAt", "pass", "settle", "play", "echo", "isAnswered", "name", "lookUp", "askAgain",
    "found", "connect", "write", "read", "readAt", "close", "connectionAt", "fileAt", "fileByteAt", "servedAt",
    "answerAt", "count", "agrees", "errors", "deliveredShare", "meanAnswer",
  };
  private static final Set<String> CONSTANTS = Set.of("NONE", "CLOSED", "SYN_SENT", "SYN_RECEIVED", "ESTABLISHED",
      "FIN_WAIT_1", "FIN_WAIT_2", "CLOSING", "CLOSE_WAIT", "TIME_WAIT", "LAST_ACK", "REFUSED", "RESET", "GIVEN_UP",
      "ABORTED");

  private final Trees trees;
  private final CompilationUnitTree unit;
  private final LineMap lines;
  private final Map<Element, Set<Element>> calls = new LinkedHashMap<>();
  private final Map<Element, Integer> depths = new HashMap<>();
  private final Set<String> publics = new TreeSet<>();
  private Element method;
  private int classes = 0;

  private LanguageTest(Trees trees, CompilationUnitTree unit) {
    this.trees = trees;
    this.unit = unit;
    this.lines = unit.getLineMap();
  }

  public static void main(String[] args) throws Exception {
    String file = args.length > 0 ? args[0] : "src/main/java/Lanternserver.java";
    JavaCompiler compiler = ToolProvider.getSystemJavaCompiler();
    try (StandardJavaFileManager files = compiler.getStandardFileManager(null, null, null)) {
      JavacTask task = (JavacTask) compiler.getTask(null, files, null, List.of("-proc:none"), null,
          files.getJavaFileObjects(new File(file)));
      CompilationUnitTree unit = task.parse().iterator().next();
      task.analyze();
      new LanguageTest(Trees.instance(task), unit).look();
    }
    Check.end();
  }

  private void look() {
    Check.isTrue("no package", unit.getPackageName() == null);
    for (ImportTree one : unit.getImports()) {
      wrongIf(one, one.isStatic() || !IMPORTS.contains(one.getQualifiedIdentifier().toString()), "import");
    }
    scan(unit, null);
    Check.isTrue("classes: " + classes, classes <= MOST_CLASSES);
    Set<String> face = new TreeSet<>(List.of(FACE));
    face.addAll(CONSTANTS);
    face.add("<init>");
    Check.dueText("the face", publics.toString(), face.toString());
    int deepest = 0;
    for (Element one : new ArrayList<>(calls.keySet())) deepest = Math.max(deepest, depth(one, new HashSet<>()));
    System.out.println("deepest call of the class's own: " + deepest);
    Check.isTrue("depth " + deepest, deepest <= MOST_DEEP);
  }

  private void wrongIf(Tree tree, boolean is, String what) {
    long at = trees.getSourcePositions().getStartPosition(unit, tree);
    Check.isTrue(what + " in line " + lines.getLineNumber(Math.max(0, at)), !is);
  }

  private int depth(Element one, Set<Element> open) {
    Integer known = depths.get(one);
    if (known != null) return known;
    Check.isTrue("no recursion: " + one, open.add(one));
    if (open.size() > 100) return 100;
    int below = 0;
    Element through = null;
    for (Element called : calls.getOrDefault(one, Set.of())) {
      int depth = depth(called, open);
      if (depth > below) through = called;
      below = Math.max(below, depth);
    }
    open.remove(one);
    depths.put(one, below + 1);
    if (below + 1 >= MOST_DEEP) System.out.println((below + 1) + " " + one + " through " + through);
    return below + 1;
  }

  @Override
  public Void visitClass(ClassTree tree, Void none) {
    classes++;
    Set<Modifier> modifiers = tree.getModifiers().getFlags();
    boolean isOuter = getCurrentPath().getParentPath().getLeaf() == unit;
    wrongIf(tree, isOuter && !modifiers.containsAll(Set.of(Modifier.PUBLIC, Modifier.FINAL)), "outer class");
    wrongIf(tree, !isOuter && (!modifiers.contains(Modifier.STATIC) || modifiers.contains(Modifier.PUBLIC)
        || modifiers.contains(Modifier.PROTECTED)), "inner class");
    int fields = 0;
    for (Tree member : tree.getMembers()) {
      if (member instanceof VariableTree field) {
        Set<Modifier> of = field.getModifiers().getFlags();
        if (!of.contains(Modifier.STATIC)) fields++;
        wrongIf(field, of.contains(Modifier.STATIC) && !of.contains(Modifier.FINAL), "static field");
        wrongIf(field, isOuter && !isVisible(of, field.getName()), "visibility of " + field.getName());
      }
      if (member instanceof MethodTree one) {
        Set<Modifier> of = one.getModifiers().getFlags();
        boolean isFace = List.of(FACE).contains(one.getName().toString());
        wrongIf(one, isOuter && !isVisible(of, one.getName()), "visibility of " + one.getName());
        wrongIf(one, isFace && !of.contains(Modifier.PUBLIC), "a name of the face: " + one.getName());
      }
      wrongIf(member, member instanceof BlockTree, "initialiser");
    }
    System.out.println(tree.getSimpleName() + ": " + fields + " fields");
    wrongIf(tree, fields > MOST_FIELDS, "fields of " + tree.getSimpleName());
    return super.visitClass(tree, none);
  }

  private boolean isVisible(Set<Modifier> of, Name name) {
    if (of.contains(Modifier.PUBLIC)) {
      publics.add(name.toString());
      return true;
    }
    return of.contains(Modifier.PRIVATE);
  }

  @Override
  public Void visitMethod(MethodTree tree, Void none) {
    Element before = method;
    method = trees.getElement(getCurrentPath());
    calls.computeIfAbsent(method, key -> new LinkedHashSet<>());
    SourcePositions at = trees.getSourcePositions();
    long from = lines.getLineNumber(at.getStartPosition(unit, tree));
    long end = at.getEndPosition(unit, tree);
    long to = end < 0 ? from : lines.getLineNumber(end);
    wrongIf(tree, to - from + 1 > MOST_LINES, "lines of " + tree.getName());
    wrongIf(tree, tree.getParameters().size() > MOST_PARAMETERS, "parameters of " + tree.getName());
    wrongIf(tree, Set.of("equals", "hashCode", "toString").contains(tree.getName().toString()), "own method");
    super.visitMethod(tree, none);
    method = before;
    return null;
  }

  @Override
  public Void visitMethodInvocation(MethodInvocationTree tree, Void none) {
    Element called = trees.getElement(getCurrentPath());
    String owner = called.getEnclosingElement().toString();
    if (owner.startsWith("Lanternserver")) {
      if (method != null) calls.get(method).add(called);
    } else {
      String full = owner + "." + called.getSimpleName();
      wrongIf(tree, !LIBRARY.contains(full) && !full.equals("java.lang.Object.<init>"), "library: " + full);
    }
    return super.visitMethodInvocation(tree, none);
  }

  @Override
  public Void visitNewClass(NewClassTree tree, Void none) {
    Element made = trees.getElement(getCurrentPath());
    String owner = made.getEnclosingElement().toString();
    if (owner.startsWith("Lanternserver")) {
      if (method != null) calls.get(method).add(made);
    } else if (!(getCurrentPath().getParentPath().getLeaf() instanceof ThrowTree)) {
      wrongIf(tree, !MADE.contains(owner), "made: " + owner);
    }
    return super.visitNewClass(tree, none);
  }

  @Override
  public Void visitThrow(ThrowTree tree, Void none) {
    boolean isGood = tree.getExpression() instanceof NewClassTree made
        && EXCEPTIONS.contains(made.getIdentifier().toString()) && made.getArguments().size() <= 1
        && (made.getArguments().isEmpty() || made.getArguments().get(0) instanceof LiteralTree);
    wrongIf(tree, !isGood, "throw");
    wrongIf(tree, method == null || method.getKind() == ElementKind.CONSTRUCTOR, "throw in a constructor");
    return super.visitThrow(tree, none);
  }

  @Override
  public Void visitBinary(BinaryTree tree, Void none) {
    TypeMirror type = trees.getTypeMirror(getCurrentPath());
    wrongIf(tree, tree.getKind() == Tree.Kind.PLUS && type.toString().equals("java.lang.String"), "joined by +");
    if (tree.getKind() == Tree.Kind.EQUAL_TO || tree.getKind() == Tree.Kind.NOT_EQUAL_TO) {
      TypeMirror left = trees.getTypeMirror(new TreePath(getCurrentPath(), tree.getLeftOperand()));
      wrongIf(tree, String.valueOf(left).equals("java.lang.String"), "== of texts");
    }
    return super.visitBinary(tree, none);
  }

  @Override
  public Void visitLiteral(LiteralTree tree, Void none) {
    if (tree.getValue() instanceof String text) {
      for (char sign : text.toCharArray()) wrongIf(tree, sign < 1 || sign > 127, "sign of a text");
    }
    return super.visitLiteral(tree, none);
  }

  @Override
  public Void visitVariable(VariableTree tree, Void none) {
    TypeMirror type = trees.getTypeMirror(new TreePath(getCurrentPath(), tree.getType()));
    if (type instanceof ArrayType array && array.getComponentType() instanceof ArrayType inner) {
      wrongIf(tree, !inner.getComponentType().getKind().isPrimitive(), "array of two dimensions");
    }
    return super.visitVariable(tree, none);
  }

  @Override
  public Void visitLambdaExpression(LambdaExpressionTree tree, Void none) {
    wrongIf(tree, true, "lambda");
    return null;
  }

  @Override
  public Void visitMemberReference(MemberReferenceTree tree, Void none) {
    wrongIf(tree, true, "method reference");
    return null;
  }

  @Override
  public Void visitTry(TryTree tree, Void none) {
    wrongIf(tree, true, "try: nothing here needs one");
    return super.visitTry(tree, none);
  }

  @Override
  public Void visitAssert(AssertTree tree, Void none) {
    wrongIf(tree, true, "assert");
    return null;
  }

  @Override
  public Void visitSynchronized(SynchronizedTree tree, Void none) {
    wrongIf(tree, true, "synchronized");
    return null;
  }

  @Override
  public Void visitEnhancedForLoop(EnhancedForLoopTree tree, Void none) {
    wrongIf(tree, true, "a loop that makes an iterator");
    return super.visitEnhancedForLoop(tree, none);
  }

  @Override
  public Void visitErroneous(ErroneousTree tree, Void none) {
    wrongIf(tree, true, "not Java");
    return null;
  }
}
