import com.sun.source.tree.BinaryTree;
import com.sun.source.tree.BlockTree;
import com.sun.source.tree.ClassTree;
import com.sun.source.tree.CompilationUnitTree;
import com.sun.source.tree.MethodInvocationTree;
import com.sun.source.tree.MethodTree;
import com.sun.source.tree.NewClassTree;
import com.sun.source.tree.Tree;
import com.sun.source.tree.VariableTree;
import com.sun.source.util.JavacTask;
import com.sun.source.util.TreePathScanner;
import com.sun.source.util.Trees;
import java.nio.file.Path;
import java.util.HashMap;
import java.util.HashSet;
import java.util.List;
import java.util.Map;
import java.util.Set;
import javax.lang.model.element.Element;
import javax.lang.model.element.ElementKind;
import javax.lang.model.element.ExecutableElement;
import javax.lang.model.element.Modifier;
import javax.lang.model.element.NestingKind;
import javax.lang.model.element.TypeElement;
import javax.lang.model.type.TypeKind;
import javax.lang.model.type.TypeMirror;
import javax.tools.JavaCompiler;
import javax.tools.ToolProvider;

/**
 * The rules of LANGUAGE.md that are seen in the tree of the program, by their numbers. It is narrower
 * than they are: no lists, no recursion, for the program needs none.
 */
public final class RuleTest {
  private static final int DEEPEST = 8;
  private static final Set<Tree.Kind> FORBIDDEN = Set.of(Tree.Kind.THROW, Tree.Kind.TRY, Tree.Kind.CATCH,
      Tree.Kind.SYNCHRONIZED, Tree.Kind.ASSERT, Tree.Kind.LAMBDA_EXPRESSION, Tree.Kind.MEMBER_REFERENCE);
  private static final Map<String, Set<String>> LIBRARY = Map.of(
      "String", Set.of("length", "charAt", "isEmpty", "equals", "indexOf", "substring", "toCharArray"),
      "StringBuilder", Set.of("append", "charAt", "setCharAt", "setLength", "deleteCharAt", "reverse", "length", "toString"),
      "Integer", Set.of("compare", "max", "min", "bitCount"),
      "Long", Set.of("compare", "max", "min", "bitCount"),
      "Math", Set.of("abs", "max", "min", "floorDiv", "floorMod"),
      "System", Set.of("arraycopy"),
      "Arrays", Set.of("copyOf", "copyOfRange", "fill"));

  private static final Map<ExecutableElement, Set<ExecutableElement>> calls = new HashMap<>();
  private static int seen = 0;
  private static int failed = 0;

  private static void due(int rule, String what, boolean holds) {
    seen++;
    if (!holds) {
      failed++;
      System.out.println("LANGUAGE.md, rule " + rule + ": " + what);
    }
  }

  /** First argument: the file of EqualPlain. */
  public static void main(String[] args) throws Exception {
    JavaCompiler compiler = ToolProvider.getSystemJavaCompiler();
    try (var files = compiler.getStandardFileManager(null, null, null)) {
      JavacTask task = (JavacTask) compiler.getTask(null, files, null, List.of("-proc:none"), null,
          files.getJavaFileObjects(Path.of(args[0])));
      Iterable<? extends CompilationUnitTree> units = task.parse();
      task.analyze();
      for (CompilationUnitTree unit : units) new Reader(Trees.instance(task)).scan(unit, null);
    }
    checkDepth();
    System.out.println(seen + " places looked at, " + failed + " failed");
    if (failed > 0) System.exit(1);
  }

  private static void checkDepth() {
    int deepest = 0;
    for (ExecutableElement method : calls.keySet()) deepest = Math.max(deepest, depth(method, new HashSet<>()));
    due(11, "calls go " + deepest + " deep, " + DEEPEST + " at most", deepest <= DEEPEST);
    System.out.println("calls go " + deepest + " deep");
  }

  /** How many calls stand open at most, this one counted; the program has no recursion. */
  private static int depth(ExecutableElement method, Set<ExecutableElement> open) {
    if (!open.add(method)) {
      due(8, method + " calls itself", false);
      return 0;
    }
    int deepest = 0;
    for (ExecutableElement next : calls.getOrDefault(method, Set.of())) deepest = Math.max(deepest, depth(next, open));
    open.remove(method);
    return 1 + deepest;
  }

  /** Reads the tree, and notes which method calls which. */
  private static final class Reader extends TreePathScanner<Void, Void> {
    private final Trees trees;
    private ExecutableElement inside = null;
    private int classes = 0;

    Reader(Trees trees) {
      this.trees = trees;
    }

    @Override
    public Void scan(Tree tree, Void none) {
      if (tree != null) due(6, tree.getKind() + ": " + tree, !FORBIDDEN.contains(tree.getKind()));
      return super.scan(tree, none);
    }

    @Override
    public Void visitClass(ClassTree tree, Void none) {
      TypeElement type = (TypeElement) trees.getElement(getCurrentPath());
      classes++;
      due(11, "more than twelve classes", classes <= 12);
      boolean isTop = type.getNestingKind() == NestingKind.TOP_LEVEL;
      due(2, type + " is neither the class nor a static one inside it", isTop
          || type.getNestingKind() == NestingKind.MEMBER && type.getModifiers().contains(Modifier.STATIC));
      for (Tree member : tree.getMembers()) {
        due(5, "a static initialiser block", !(member instanceof BlockTree block) || !block.isStatic());
      }
      return super.visitClass(tree, none);
    }

    @Override
    public Void visitMethod(MethodTree tree, Void none) {
      inside = (ExecutableElement) trees.getElement(getCurrentPath());
      calls.computeIfAbsent(inside, m -> new HashSet<>());
      due(11, inside + " has more than seven parameters", tree.getParameters().size() <= 7);
      due(6, inside + " tells of exceptions", tree.getThrows().isEmpty());
      super.visitMethod(tree, none);
      inside = null;
      return null;
    }

    @Override
    public Void visitMethodInvocation(MethodInvocationTree tree, Void none) {
      note((ExecutableElement) trees.getElement(getCurrentPath()));
      return super.visitMethodInvocation(tree, none);
    }

    @Override
    public Void visitNewClass(NewClassTree tree, Void none) {
      due(2, "a class without a name", tree.getClassBody() == null);
      note((ExecutableElement) trees.getElement(getCurrentPath()));
      return super.visitNewClass(tree, none);
    }

    private void note(ExecutableElement called) {
      TypeElement owner = (TypeElement) called.getEnclosingElement();
      if (isOwn(owner)) {
        if (inside != null) calls.get(inside).add(called);
        return;
      }
      String name = called.getSimpleName().toString();
      // What a constructor calls by itself, super(), is Object's.
      due(4, owner + "." + name, name.equals("<init>") && owner.getSimpleName().contentEquals("Object")
          || LIBRARY.getOrDefault(owner.getSimpleName().toString(), Set.of()).contains(name));
    }

    @Override
    public Void visitVariable(VariableTree tree, Void none) {
      Element variable = trees.getElement(getCurrentPath());
      due(3, variable + " is of type " + variable.asType(), isAllowed(variable.asType(), 0));
      if (variable.getKind() == ElementKind.FIELD && variable.getModifiers().contains(Modifier.STATIC)) {
        due(5, variable + " isn't final", variable.getModifiers().contains(Modifier.FINAL));
      }
      return super.visitVariable(tree, none);
    }

    private boolean isAllowed(TypeMirror type, int dimensions) {
      if (type.getKind().isPrimitive()) return dimensions <= 2;
      if (type.getKind() == TypeKind.ARRAY) {
        return isAllowed(((javax.lang.model.type.ArrayType) type).getComponentType(), dimensions + 1);
      }
      if (!(type instanceof javax.lang.model.type.DeclaredType declared)) return false;
      TypeElement of = (TypeElement) declared.asElement();
      return isOwn(of) ? dimensions <= 1 : dimensions == 0 && of.getSimpleName().toString().matches("String|StringBuilder");
    }

    @Override
    public Void visitBinary(BinaryTree tree, Void none) {
      TypeMirror type = trees.getTypeMirror(getCurrentPath());
      due(6, "texts joined by +: " + tree, type == null || type.getKind().isPrimitive());
      return super.visitBinary(tree, none);
    }

    private static boolean isOwn(TypeElement type) {
      return type.getQualifiedName().toString().matches("EqualPlain(\\..*)?");
    }
  }
}
