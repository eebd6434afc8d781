import com.sun.source.tree.BinaryTree;
import com.sun.source.tree.ClassTree;
import com.sun.source.tree.CompilationUnitTree;
import com.sun.source.tree.ForLoopTree;
import com.sun.source.tree.IdentifierTree;
import com.sun.source.tree.LineMap;
import com.sun.source.tree.LiteralTree;
import com.sun.source.tree.MemberSelectTree;
import com.sun.source.tree.MethodInvocationTree;
import com.sun.source.tree.MethodTree;
import com.sun.source.tree.NewArrayTree;
import com.sun.source.tree.NewClassTree;
import com.sun.source.tree.Tree;
import com.sun.source.tree.VariableTree;
import com.sun.source.util.JavacTask;
import com.sun.source.util.SourcePositions;
import com.sun.source.util.TreePathScanner;
import com.sun.source.util.Trees;
import java.nio.file.Path;
import java.util.ArrayDeque;
import java.util.Deque;
import java.util.EnumSet;
import java.util.HashSet;
import java.util.List;
import java.util.Map;
import java.util.Set;
import java.util.TreeMap;
import java.util.TreeSet;
import javax.lang.model.element.Modifier;
import javax.tools.JavaCompiler;
import javax.tools.StandardJavaFileManager;
import javax.tools.ToolProvider;

/** The rules of ../shared/LANGUAGE.md, as far as they can be read off the program's tree. */
public final class LanguageTest extends TreePathScanner<Void, Void> {
  private static final Checks checks = new Checks();
  private static final Path PROGRAM = Path.of("src/main/java/SharedShadow.java");

  private static final Set<Tree.Kind> FORBIDDEN = EnumSet.of(
      Tree.Kind.THROW, Tree.Kind.TRY, Tree.Kind.CATCH, Tree.Kind.SYNCHRONIZED, Tree.Kind.ASSERT,
      Tree.Kind.LAMBDA_EXPRESSION, Tree.Kind.MEMBER_REFERENCE, Tree.Kind.BINDING_PATTERN,
      Tree.Kind.WHILE_LOOP, Tree.Kind.DO_WHILE_LOOP, Tree.Kind.ANNOTATION, Tree.Kind.IMPORT, Tree.Kind.PACKAGE);

  private static final Set<String> LIBRARY = Set.of("Math.min", "Math.max", "Integer.bitCount", "System.arraycopy");
  private static final Set<String> OF_TEXTS = Set.of("length", "charAt");
  private static final Set<String> FACE = Set.of(("person of change share part light claim go at now met cold shade all tan "
      + "strong kindFor cloud agree changes holder gain pairs mate ways broken fits may duel lanterns days seed feed wipe "
      + "text hold as sheet write copy load judge image undo tear count status").split(" "));

  private final CompilationUnitTree unit;
  private final SourcePositions positions;
  private final LineMap lines;
  private final Set<String> ownClasses = new HashSet<>();
  private final Map<String, Set<String>> calls = new TreeMap<>();
  private final Set<String> methods = new HashSet<>();
  private final Deque<String> inMethod = new ArrayDeque<>();

  private LanguageTest(CompilationUnitTree unit, SourcePositions positions) {
    this.unit = unit;
    this.positions = positions;
    this.lines = unit.getLineMap();
  }

  public static void main(String[] args) throws Exception {
    JavaCompiler compiler = ToolProvider.getSystemJavaCompiler();
    StandardJavaFileManager files = compiler.getStandardFileManager(null, null, null);
    JavacTask task = (JavacTask) compiler.getTask(null, files, null, null, null, files.getJavaFileObjects(PROGRAM));
    for (CompilationUnitTree unit : task.parse()) {
      new LanguageTest(unit, Trees.instance(task).getSourcePositions()).look();
    }
    checks.end("LanguageTest");
  }

  private void look() {
    checks.holds("one class in the file, no package, no import",
        unit.getTypeDecls().size() == 1 && unit.getPackage() == null && unit.getImports().isEmpty());
    ClassTree face = (ClassTree) unit.getTypeDecls().get(0);
    checks.holds("public final SharedShadow", face.getSimpleName().contentEquals("SharedShadow")
        && face.getModifiers().getFlags().equals(EnumSet.of(Modifier.PUBLIC, Modifier.FINAL)));
    lookAtFace(face);
    scan(unit, null);
    checks.holds("twelve classes at most", ownClasses.size() <= 12);
    for (String method : methods) {
      int deep = depth(method, new HashSet<>());
      checks.holds("calls from " + method + " go at most eight deep, not " + deep, deep <= 8);
    }
  }

  private void lookAtFace(ClassTree face) {
    Set<String> open = new TreeSet<>();
    for (Tree member : face.getMembers()) {
      if (member instanceof MethodTree m) {
        boolean isPublic = m.getModifiers().getFlags().contains(Modifier.PUBLIC);
        boolean isPrivate = m.getModifiers().getFlags().contains(Modifier.PRIVATE);
        checks.holds(m.getName() + " is public or private", isPublic || isPrivate);
        if (isPublic && !m.getName().contentEquals("<init>")) {
          open.add(m.getName().toString());
        }
        checks.holds("no private " + m.getName(), !isPrivate || !FACE.contains(m.getName().toString()));
      } else if (member instanceof VariableTree v) {
        checks.holds(v.getName() + " is private", v.getModifiers().getFlags().contains(Modifier.PRIVATE));
      } else if (member instanceof ClassTree c) {
        Set<Modifier> flags = c.getModifiers().getFlags();
        checks.holds(c.getSimpleName() + " is static and not open",
            flags.contains(Modifier.STATIC) && !flags.contains(Modifier.PUBLIC) && !flags.contains(Modifier.PROTECTED));
        ownClasses.add(c.getSimpleName().toString());
      } else {
        checks.holds("no block stands in the class", false);
      }
    }
    checks.holds("the face is the document's", open.equals(FACE));
  }

  private String at(Tree tree) {
    return "line " + lines.getLineNumber(positions.getStartPosition(unit, tree));
  }

  @Override
  public Void scan(Tree tree, Void none) {
    if (tree != null && FORBIDDEN.contains(tree.getKind())) {
      checks.holds(at(tree) + ": " + tree.getKind(), false);
    }
    return super.scan(tree, none);
  }

  @Override
  public Void visitClass(ClassTree tree, Void none) {
    int fields = 0;
    for (Tree member : tree.getMembers()) {
      if (member instanceof VariableTree v && !v.getModifiers().getFlags().contains(Modifier.STATIC)) {
        fields++;
      }
      checks.holds(at(tree) + ": no static block", member.getKind() != Tree.Kind.BLOCK);
    }
    checks.holds(tree.getSimpleName() + " has some twenty fields at most", fields <= 20);
    checks.holds(at(tree) + ": no class inside a method", inMethod.isEmpty());
    return super.visitClass(tree, none);
  }

  @Override
  public Void visitMethod(MethodTree tree, Void none) {
    String name = getCurrentPath().getParentPath().getLeaf() instanceof ClassTree c ? c.getSimpleName() + "." + tree.getName() : "";
    long first = lines.getLineNumber(positions.getStartPosition(unit, tree));
    long last = lines.getLineNumber(Math.max(0, positions.getEndPosition(unit, tree)));
    checks.holds(name + " is of sixty lines at most", last - first < 60);
    checks.holds(name + " has seven parameters at most", tree.getParameters().size() <= 7);
    if (!tree.getName().contentEquals("<init>")) {
      checks.holds("one method only is named " + tree.getName(), methods.add(tree.getName().toString()));
    }
    inMethod.push(tree.getName().toString());
    super.visitMethod(tree, none);
    inMethod.pop();
    return null;
  }

  @Override
  public Void visitVariable(VariableTree tree, Void none) {
    Set<Modifier> flags = tree.getModifiers().getFlags();
    checks.holds(at(tree) + ": static fields are final", !flags.contains(Modifier.STATIC) || flags.contains(Modifier.FINAL));
    String type = String.valueOf(tree.getType()).replace("[]", "");
    checks.holds(at(tree) + ": type " + type,
        Set.of("int", "long", "boolean", "byte", "short", "char", "String").contains(type) || ownClasses.contains(type));
    return super.visitVariable(tree, none);
  }

  @Override
  public Void visitMethodInvocation(MethodInvocationTree tree, Void none) {
    if (tree.getMethodSelect() instanceof IdentifierTree called) {
      note(called.getName().toString());
    } else if (tree.getMethodSelect() instanceof MemberSelectTree called) {
      String whole = called.getExpression() + "." + called.getIdentifier();
      boolean isUpper = Character.isUpperCase(whole.charAt(0)) && !ownClasses.contains(called.getExpression().toString());
      if (!OF_TEXTS.contains(called.getIdentifier().toString())) {
        checks.holds(at(tree) + ": " + whole, !isUpper || LIBRARY.contains(whole));
        note(called.getIdentifier().toString());
      }
    }
    return super.visitMethodInvocation(tree, none);
  }

  private void note(String called) {
    if (!inMethod.isEmpty()) {
      calls.computeIfAbsent(inMethod.peek(), m -> new TreeSet<>()).add(called);
    }
  }

  private int depth(String method, Set<String> open) {
    checks.holds(method + " doesn't call itself", open.add(method));
    int deepest = 0;
    for (String called : calls.getOrDefault(method, Set.of())) {
      if (!open.contains(called)) {
        deepest = Math.max(deepest, depth(called, open));
      } else {
        checks.holds(method + " doesn't come back to " + called, false);
      }
    }
    open.remove(method);
    return 1 + deepest;
  }

  /** Objects are made by fields and constructors alone: no call of the face makes one. */
  @Override
  public Void visitNewClass(NewClassTree tree, Void none) {
    checks.holds(at(tree) + ": made in a call", inMethod.isEmpty() || inMethod.peek().equals("<init>"));
    checks.holds(at(tree) + ": one of its own classes", tree.getClassBody() == null && ownClasses.contains(tree.getIdentifier().toString()));
    return super.visitNewClass(tree, none);
  }

  @Override
  public Void visitNewArray(NewArrayTree tree, Void none) {
    checks.holds(at(tree) + ": a row made in a call", inMethod.isEmpty());
    checks.holds(at(tree) + ": of at most two dimensions", tree.getDimensions().size() <= 2);
    return super.visitNewArray(tree, none);
  }

  @Override
  public Void visitForLoop(ForLoopTree tree, Void none) {
    checks.holds(at(tree) + ": a loop's bound", tree.getCondition() != null && String.valueOf(tree.getCondition()).matches(".*[<>].*"));
    checks.holds(at(tree) + ": a loop's step", tree.getUpdate().size() == 1
        && List.of(Tree.Kind.POSTFIX_INCREMENT, Tree.Kind.POSTFIX_DECREMENT).contains(tree.getUpdate().get(0).getExpression().getKind()));
    return super.visitForLoop(tree, none);
  }

  @Override
  public Void visitBinary(BinaryTree tree, Void none) {
    boolean ofTexts = tree.getLeftOperand().getKind() == Tree.Kind.STRING_LITERAL || tree.getRightOperand().getKind() == Tree.Kind.STRING_LITERAL;
    checks.holds(at(tree) + ": texts are neither joined nor compared by signs", !ofTexts);
    return super.visitBinary(tree, none);
  }

  @Override
  public Void visitLiteral(LiteralTree tree, Void none) {
    if (tree.getValue() instanceof String s) {
      checks.holds(at(tree) + ": signs 1 to 127", s.chars().allMatch(c -> c >= 1 && c <= 127));
    }
    return super.visitLiteral(tree, none);
  }
}
