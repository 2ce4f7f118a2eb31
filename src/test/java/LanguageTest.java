import com.sun.source.tree.AssertTree;
import com.sun.source.tree.BinaryTree;
import com.sun.source.tree.ClassTree;
import com.sun.source.tree.CompilationUnitTree;
import com.sun.source.tree.ImportTree;
import com.sun.source.tree.LambdaExpressionTree;
import com.sun.source.tree.LineMap;
import com.sun.source.tree.MemberReferenceTree;
import com.sun.source.tree.MemberSelectTree;
import com.sun.source.tree.MethodInvocationTree;
import com.sun.source.tree.MethodTree;
import com.sun.source.tree.NewArrayTree;
import com.sun.source.tree.NewClassTree;
import com.sun.source.tree.SynchronizedTree;
import com.sun.source.tree.ThrowTree;
import com.sun.source.tree.Tree;
import com.sun.source.tree.TryTree;
import com.sun.source.tree.TypeCastTree;
import com.sun.source.tree.VariableTree;
import com.sun.source.util.JavacTask;
import com.sun.source.util.SourcePositions;
import com.sun.source.util.TreePath;
import com.sun.source.util.TreePathScanner;
import com.sun.source.util.Trees;
import java.io.IOException;
import java.nio.file.Files;
import java.nio.file.Path;
import java.util.HashMap;
import java.util.HashSet;
import java.util.List;
import java.util.Map;
import java.util.Set;
import java.util.TreeSet;
import java.util.regex.Matcher;
import java.util.regex.Pattern;
import javax.lang.model.element.Element;
import javax.lang.model.element.Modifier;
import javax.lang.model.type.TypeKind;
import javax.tools.JavaCompiler;
import javax.tools.StandardJavaFileManager;
import javax.tools.ToolProvider;

/** The rules of ../shared/LANGUAGE.md that can be read off the source, and the face that the document tells. */
public final class LanguageTest extends TreePathScanner<Void, Void> {
  private static final Path SOURCE = Path.of("src/main/java/TwoThirdsOfAnEgg.java");
  private static final Path DOCUMENT = Path.of("../shared/DOC.md");
  private static final String OUTER = "TwoThirdsOfAnEgg";
  private static final int LONGEST = 60;
  private static final int MOST_PARAMETERS = 7;
  private static final int MOST_CLASSES = 12;
  private static final int MOST_FIELDS = 20;
  private static final int DEEPEST = 8;
  private static final Set<String> LIBRARY = Set.of(
      "java.lang.Object.<init>", "java.lang.Math.max", "java.lang.Math.min", "java.lang.Math.abs",
      "java.lang.Integer.bitCount", "java.lang.String.length", "java.lang.String.charAt", "java.lang.String.isEmpty");

  private final Trees trees;
  private final CompilationUnitTree unit;
  private final LineMap lines;
  private final SourcePositions positions;
  private final Map<Element, Set<Element>> calls = new HashMap<>();
  private final Set<String> open = new TreeSet<>();
  private final Set<String> hidden = new HashSet<>();
  private int classes = 0;

  private LanguageTest(JavacTask task) throws IOException {
    unit = task.parse().iterator().next();
    task.analyze();
    trees = Trees.instance(task);
    lines = unit.getLineMap();
    positions = trees.getSourcePositions();
  }

  public static void main(String[] args) throws IOException {
    JavaCompiler compiler = ToolProvider.getSystemJavaCompiler();
    StandardJavaFileManager files = compiler.getStandardFileManager(null, null, null);
    JavacTask task = (JavacTask) compiler.getTask(
        null, files, null, List.of("-proc:none"), null, files.getJavaFileObjects(SOURCE));
    LanguageTest test = new LanguageTest(task);
    test.scan(test.unit, null);
    test.face();
    test.depths();
    Check.due("more than some twelve classes", Math.max(test.classes, MOST_CLASSES), MOST_CLASSES);
    String text = Files.readString(SOURCE);
    Check.due("signs above 127", text.chars().filter(sign -> sign > 127).count(), 0);
    Check.end("LanguageTest");
  }

  private void wrong(String why, Tree tree) {
    long line = lines.getLineNumber(positions.getStartPosition(unit, tree));
    Check.due("line " + line + ": " + why, 1, 0);
  }

  private void face() throws IOException {
    String document = Files.readString(DOCUMENT);
    Matcher matcher = Pattern.compile("(?m)^    public (\\w+) (\\w+)\\(([^)]*)\\);$").matcher(document);
    Set<String> due = new TreeSet<>(Set.of("<init>()"));
    while (matcher.find()) {
      String parameters = matcher.group(3).replaceAll("(\\w+) \\w+", "$1").replace(" ", "");
      due.add(matcher.group(1) + " " + matcher.group(2) + "(" + parameters + ")");
    }
    Check.due("methods of the document", due.size(), 51);
    Check.due("the face", open.toString(), due.toString());
    for (String method : due) {
      String name = method.replaceAll("^\\w+ |\\(.*", "");
      Check.due("private methods named " + name, hidden.contains(name) ? 1 : 0, 0);
    }
  }

  private void depths() {
    for (Element method : calls.keySet()) {
      int deep = depth(method, 0);
      Check.due("calls of " + method + " deeper than eight", Math.max(deep, DEEPEST), DEEPEST);
    }
  }

  /** How deep the calls of a method go, itself counted; beyond all bounds it is a recursion. */
  private int depth(Element method, int above) {
    int deepest = 0;
    if (above < 50) {
      for (Element called : calls.getOrDefault(method, Set.of())) {
        deepest = Math.max(deepest, depth(called, above + 1));
      }
    }
    return deepest + 1;
  }

  private boolean isOuter(TreePath path) {
    return path.getLeaf() instanceof ClassTree tree && tree.getSimpleName().contentEquals(OUTER);
  }

  @Override
  public Void visitImport(ImportTree tree, Void none) {
    wrong("an import", tree);
    return null;
  }

  @Override
  public Void visitClass(ClassTree tree, Void none) {
    classes++;
    Set<Modifier> modifiers = tree.getModifiers().getFlags();
    if (isOuter(getCurrentPath())) {
      Check.due("the class is public and final", modifiers.toString(), "[public, final]");
    } else if (!modifiers.contains(Modifier.STATIC) || modifiers.contains(Modifier.PUBLIC)) {
      wrong("a class inside that isn't static, or is public", tree);
    }
    long fields = tree.getMembers().stream()
        .filter(member -> member instanceof VariableTree field
            && !field.getModifiers().getFlags().contains(Modifier.STATIC))
        .count();
    Check.due("fields of " + tree.getSimpleName(), Math.max(fields, MOST_FIELDS), MOST_FIELDS);
    return super.visitClass(tree, none);
  }

  @Override
  public Void visitMethod(MethodTree tree, Void none) {
    Set<Modifier> modifiers = tree.getModifiers().getFlags();
    Element element = trees.getElement(getCurrentPath());
    calls.putIfAbsent(element, new HashSet<>());
    boolean outer = isOuter(getCurrentPath().getParentPath());
    if (outer && modifiers.contains(Modifier.PUBLIC)) {
      StringBuilder types = new StringBuilder();
      tree.getParameters().forEach(it -> types.append(types.length() > 0 ? "," : "").append(it.getType()));
      String answer = tree.getReturnType() == null ? "" : tree.getReturnType() + " ";
      open.add(answer + tree.getName() + "(" + types + ")");
    } else if (outer && !modifiers.contains(Modifier.PRIVATE)) {
      wrong("a method that is neither public nor private", tree);
    } else if (!tree.getName().contentEquals("<init>")) {
      hidden.add(tree.getName().toString());
    }
    long from = lines.getLineNumber(positions.getStartPosition(unit, tree));
    long to = lines.getLineNumber(positions.getEndPosition(unit, tree));
    Check.due("lines of " + tree.getName(), Math.max(to - from + 1, LONGEST), LONGEST);
    Check.due("parameters of " + tree.getName(), Math.max(tree.getParameters().size(), MOST_PARAMETERS), MOST_PARAMETERS);
    return super.visitMethod(tree, none);
  }

  @Override
  public Void visitVariable(VariableTree tree, Void none) {
    Set<Modifier> modifiers = tree.getModifiers().getFlags();
    if (modifiers.contains(Modifier.STATIC) && !modifiers.contains(Modifier.FINAL)) {
      wrong("a static field that isn't final", tree);
    }
    if (isOuter(getCurrentPath().getParentPath()) && !modifiers.contains(Modifier.PRIVATE)) {
      wrong("a field that isn't private", tree);
    }
    return super.visitVariable(tree, none);
  }

  @Override
  public Void visitMethodInvocation(MethodInvocationTree tree, Void none) {
    called(trees.getElement(getCurrentPath()), tree);
    return super.visitMethodInvocation(tree, none);
  }

  @Override
  public Void visitNewClass(NewClassTree tree, Void none) {
    called(trees.getElement(getCurrentPath()), tree);
    if (tree.getClassBody() != null) {
      wrong("an anonymous class", tree);
    }
    madeWithTheObject(tree);
    return super.visitNewClass(tree, none);
  }

  @Override
  public Void visitNewArray(NewArrayTree tree, Void none) {
    madeWithTheObject(tree);
    return super.visitNewArray(tree, none);
  }

  /** All calls of a run live in one room: what is needed is made with the object and used again. */
  private void madeWithTheObject(Tree tree) {
    MethodTree method = methodAround();
    if (method != null && !method.getName().contentEquals("<init>")) {
      wrong("something made by a call", tree);
    }
  }

  /** The library is its functions alone: of fields there is but the length of an array. */
  @Override
  public Void visitMemberSelect(MemberSelectTree tree, Void none) {
    Element element = trees.getElement(getCurrentPath());
    boolean field = element != null && element.getKind().isField() && !tree.getIdentifier().contentEquals("length");
    if (field && !element.getEnclosingElement().toString().startsWith(OUTER)) {
      wrong("a field of the library", tree);
    }
    return super.visitMemberSelect(tree, none);
  }

  private MethodTree methodAround() {
    for (TreePath path = getCurrentPath(); path != null; path = path.getParentPath()) {
      if (path.getLeaf() instanceof MethodTree method) {
        return method;
      }
    }
    return null;
  }

  private void called(Element element, Tree tree) {
    String owner = element.getEnclosingElement().toString();
    if (!owner.startsWith(OUTER) && !LIBRARY.contains(owner + "." + element.getSimpleName())) {
      wrong("a call of " + owner + "." + element, tree);
    }
    for (TreePath path = getCurrentPath(); path != null; path = path.getParentPath()) {
      if (path.getLeaf() instanceof MethodTree) {
        calls.computeIfAbsent(trees.getElement(path), it -> new HashSet<>()).add(element);
        return;
      }
    }
  }

  @Override
  public Void visitBinary(BinaryTree tree, Void none) {
    TypeKind kind = trees.getTypeMirror(getCurrentPath()).getKind();
    boolean text = trees.getTypeMirror(new TreePath(getCurrentPath(), tree.getLeftOperand())).toString()
        .equals("java.lang.String");
    if (kind == TypeKind.DECLARED || text) {
      wrong("texts joined or compared by a sign", tree);
    }
    return super.visitBinary(tree, none);
  }

  @Override
  public Void visitThrow(ThrowTree tree, Void none) {
    wrong("throw", tree);
    return super.visitThrow(tree, none);
  }

  @Override
  public Void visitTry(TryTree tree, Void none) {
    wrong("try", tree);
    return super.visitTry(tree, none);
  }

  @Override
  public Void visitSynchronized(SynchronizedTree tree, Void none) {
    wrong("synchronized", tree);
    return super.visitSynchronized(tree, none);
  }

  @Override
  public Void visitAssert(AssertTree tree, Void none) {
    wrong("assert", tree);
    return super.visitAssert(tree, none);
  }

  @Override
  public Void visitLambdaExpression(LambdaExpressionTree tree, Void none) {
    wrong("a lambda", tree);
    return super.visitLambdaExpression(tree, none);
  }

  @Override
  public Void visitMemberReference(MemberReferenceTree tree, Void none) {
    wrong("a method reference", tree);
    return super.visitMemberReference(tree, none);
  }

  @Override
  public Void visitTypeCast(TypeCastTree tree, Void none) {
    if (!trees.getTypeMirror(getCurrentPath()).getKind().isPrimitive()) {
      wrong("a cast between classes", tree);
    }
    return super.visitTypeCast(tree, none);
  }
}
