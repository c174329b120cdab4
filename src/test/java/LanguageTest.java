import com.sun.source.tree.AssertTree;
import com.sun.source.tree.BinaryTree;
import com.sun.source.tree.CatchTree;
import com.sun.source.tree.ClassTree;
import com.sun.source.tree.CompilationUnitTree;
import com.sun.source.tree.ExpressionTree;
import com.sun.source.tree.ImportTree;
import com.sun.source.tree.LambdaExpressionTree;
import com.sun.source.tree.MemberReferenceTree;
import com.sun.source.tree.MethodInvocationTree;
import com.sun.source.tree.MethodTree;
import com.sun.source.tree.NewClassTree;
import com.sun.source.tree.SynchronizedTree;
import com.sun.source.tree.ThrowTree;
import com.sun.source.tree.Tree;
import com.sun.source.tree.TryTree;
import com.sun.source.tree.TypeCastTree;
import com.sun.source.tree.VariableTree;
import com.sun.source.util.JavacTask;
import com.sun.source.util.TreePath;
import com.sun.source.util.TreePathScanner;
import com.sun.source.util.Trees;
import java.io.IOException;
import java.util.ArrayDeque;
import java.util.Deque;
import java.util.LinkedHashMap;
import java.util.LinkedHashSet;
import java.util.List;
import java.util.Map;
import java.util.Set;
import javax.lang.model.element.Element;
import javax.lang.model.element.ElementKind;
import javax.lang.model.element.ExecutableElement;
import javax.lang.model.element.Modifier;
import javax.lang.model.element.TypeElement;
import javax.lang.model.type.ArrayType;
import javax.lang.model.type.DeclaredType;
import javax.lang.model.type.TypeKind;
import javax.lang.model.type.TypeMirror;
import javax.lang.model.util.Elements;
import javax.tools.JavaCompiler;
import javax.tools.StandardJavaFileManager;
import javax.tools.ToolProvider;

/** What of LANGUAGE.md can be counted or looked up in the text of the class, rule by rule. */
public final class LanguageTest {
  private static final String SOURCE = "src/main/java/WhichShelf.java";
  private static final Set<String> LIBRARY = Set.of("Math.max", "System.arraycopy", "Arrays.fill");
  private static final Set<String> IMPORTS = Set.of("java.util.Arrays", "java.util.NoSuchElementException");
  private static final int MOST_CLASSES = 12;
  private static final int MOST_FIELDS = 20;
  private static final int MOST_PARAMETERS = 7;
  private static final int MOST_LINES = 60;
  private static final int MOST_DEEP = 8;
  private static final Due DUE = new Due("LanguageTest");

  public static void main(String[] args) throws IOException {
    JavaCompiler compiler = ToolProvider.getSystemJavaCompiler();
    StandardJavaFileManager files = compiler.getStandardFileManager(null, null, null);
    JavacTask task = (JavacTask) compiler.getTask(null, files, null, List.of("-proc:none"), null,
        files.getJavaFileObjects(SOURCE));
    CompilationUnitTree unit = task.parse().iterator().next();
    task.analyze();
    DUE.is("no package line", unit.getPackage() == null, true);
    Reader reader = new Reader(Trees.instance(task), unit);
    reader.scan(unit, null);
    DUE.is("rule 11: classes", reader.classes.size() <= MOST_CLASSES, true);
    depths(reader, task.getElements());
    DUE.end();
  }

  /** Rules 8 and 11: no method comes back to itself, and none begins a chain of calls that is too long. */
  private static void depths(Reader reader, Elements elements) {
    for (ExecutableElement method : reader.calls.keySet()) {
      int deep = deepest(method, new ArrayDeque<>(), reader, elements);
      DUE.is("rule 11: " + method + " goes " + deep + " deep", deep <= MOST_DEEP, true);
    }
  }

  private static int deepest(ExecutableElement at, Deque<ExecutableElement> open, Reader reader, Elements elements) {
    if (open.contains(at)) {
      DUE.is("rule 8: recursion by " + at, true, false);
      return 0;
    }
    open.push(at);
    int below = 0;
    for (Called called : reader.calls.getOrDefault(at, Set.of())) {
      below = Math.max(below, deepest(called.method, open, reader, elements));
      for (ExecutableElement other : reader.calls.keySet()) {
        TypeElement owner = (TypeElement) other.getEnclosingElement();
        if (!called.bySuper && elements.overrides(other, called.method, owner)) {
          below = Math.max(below, deepest(other, open, reader, elements));
        }
      }
    }
    open.pop();
    return below + 1;
  }

  /** A method that another calls; by super it is that one and none that overrides it. */
  private record Called(ExecutableElement method, boolean bySuper) {
  }

  private static final class Reader extends TreePathScanner<Void, Void> {
    final Map<ExecutableElement, Set<Called>> calls = new LinkedHashMap<>();
    final Set<Element> classes = new LinkedHashSet<>();
    private final Trees trees;
    private final CompilationUnitTree unit;
    private ExecutableElement in = null;

    Reader(Trees trees, CompilationUnitTree unit) {
      this.trees = trees;
      this.unit = unit;
    }

    private long lineOf(long position) {
      return unit.getLineMap().getLineNumber(position);
    }

    private String at(Tree tree) {
      return " in line " + lineOf(trees.getSourcePositions().getStartPosition(unit, tree));
    }

    private void never(String what, Tree tree) {
      DUE.is(what + at(tree), true, false);
    }

    @Override
    public Void visitImport(ImportTree tree, Void none) {
      String name = tree.getQualifiedIdentifier().toString();
      DUE.is("rule 4: import " + name, IMPORTS.contains(name), true);
      return super.visitImport(tree, none);
    }

    @Override
    public Void visitClass(ClassTree tree, Void none) {
      classes.add(trees.getElement(getCurrentPath()));
      int fields = 0;
      for (Tree member : tree.getMembers()) {
        boolean constant = member instanceof VariableTree v && v.getModifiers().getFlags().contains(Modifier.STATIC);
        fields += member instanceof VariableTree && !constant ? 1 : 0;
        if (member.getKind() == Tree.Kind.BLOCK) {
          never("rule 5: initialiser block", member);
        }
      }
      DUE.is("rule 11: fields of " + tree.getSimpleName(), fields <= MOST_FIELDS, true);
      return super.visitClass(tree, none);
    }

    @Override
    public Void visitMethod(MethodTree tree, Void none) {
      ExecutableElement outer = in;
      in = (ExecutableElement) trees.getElement(getCurrentPath());
      calls.put(in, new LinkedHashSet<>());
      DUE.is("rule 11: parameters of " + in, tree.getParameters().size() <= MOST_PARAMETERS, true);
      long from = lineOf(trees.getSourcePositions().getStartPosition(unit, tree));
      long to = lineOf(Math.max(0, trees.getSourcePositions().getEndPosition(unit, tree)));
      DUE.is("rule 11: lines of " + in, to - from + 1 <= MOST_LINES, true);
      super.visitMethod(tree, none);
      in = outer;
      return null;
    }

    @Override
    public Void visitMethodInvocation(MethodInvocationTree tree, Void none) {
      ExecutableElement called = (ExecutableElement) trees.getElement(getCurrentPath());
      String owner = called.getEnclosingElement().getSimpleName().toString();
      boolean constructor = called.getKind() == ElementKind.CONSTRUCTOR;
      if (!constructor && !isOwn(called.getEnclosingElement())) {
        String name = owner + "." + called.getSimpleName();
        DUE.is("rule 4: " + name + at(tree), LIBRARY.contains(name), true);
      }
      boolean ofConstructor = in != null && in.getKind() == ElementKind.CONSTRUCTOR;
      DUE.is("rule 12: a constructor calls " + called + at(tree), ofConstructor && !constructor, false);
      noteCall(called, tree.getMethodSelect().toString().startsWith("super."));
      return super.visitMethodInvocation(tree, none);
    }

    private void noteCall(ExecutableElement called, boolean bySuper) {
      if (in != null) {
        calls.get(in).add(new Called(called, bySuper));
      }
    }

    @Override
    public Void visitNewClass(NewClassTree tree, Void none) {
      ExecutableElement made = (ExecutableElement) trees.getElement(getCurrentPath());
      boolean thrown = getCurrentPath().getParentPath().getLeaf().getKind() == Tree.Kind.THROW;
      DUE.is("rule 3: new " + tree.getIdentifier() + at(tree), thrown || isOwn(made.getEnclosingElement()), true);
      noteCall(made, true);
      return super.visitNewClass(tree, none);
    }

    @Override
    public Void visitVariable(VariableTree tree, Void none) {
      Element variable = trees.getElement(getCurrentPath());
      DUE.is("rule 3: type of " + variable + at(tree), isAllowed(variable.asType()), true);
      if (variable.getKind() == ElementKind.FIELD && variable.getModifiers().contains(Modifier.STATIC)) {
        boolean plain = variable.asType().getKind().isPrimitive();
        DUE.is("rule 5: " + variable, plain && variable.getModifiers().contains(Modifier.FINAL), true);
      }
      return super.visitVariable(tree, none);
    }

    private boolean isAllowed(TypeMirror type) {
      if (type.getKind() == TypeKind.ARRAY) {
        TypeMirror of = ((ArrayType) type).getComponentType();
        boolean rowOfNumbers = of.getKind() == TypeKind.ARRAY
            && ((ArrayType) of).getComponentType().getKind().isPrimitive();
        return rowOfNumbers || of.getKind() != TypeKind.ARRAY && isAllowed(of);
      }
      return type.getKind().isPrimitive() || isOwn(((DeclaredType) type).asElement());
    }

    private static boolean isOwn(Element type) {
      Element outermost = type;
      while (outermost.getEnclosingElement().getKind() != ElementKind.PACKAGE) {
        outermost = outermost.getEnclosingElement();
      }
      return outermost.getSimpleName().contentEquals("WhichShelf");
    }

    @Override
    public Void visitThrow(ThrowTree tree, Void none) {
      boolean answers = in != null && in.getSimpleName().contentEquals("answer");
      boolean named = tree.getExpression() instanceof NewClassTree made
          && made.getIdentifier().toString().equals("NoSuchElementException");
      DUE.is("rule 6: throw" + at(tree), answers && named, true);
      return super.visitThrow(tree, none);
    }

    @Override
    public Void visitBinary(BinaryTree tree, Void none) {
      TypeMirror left = typeOf(tree.getLeftOperand());
      TypeMirror right = typeOf(tree.getRightOperand());
      DUE.is("rule 10: numbers alone" + at(tree), left.getKind().isPrimitive() && right.getKind().isPrimitive(), true);
      return super.visitBinary(tree, none);
    }

    private TypeMirror typeOf(ExpressionTree tree) {
      return trees.getTypeMirror(new TreePath(getCurrentPath(), tree));
    }

    @Override
    public Void visitLambdaExpression(LambdaExpressionTree tree, Void none) {
      never("rule 2: lambda", tree);
      return super.visitLambdaExpression(tree, none);
    }

    @Override
    public Void visitMemberReference(MemberReferenceTree tree, Void none) {
      never("rule 2: method reference", tree);
      return super.visitMemberReference(tree, none);
    }

    @Override
    public Void visitTry(TryTree tree, Void none) {
      never("nothing in the class needs a try", tree);
      return super.visitTry(tree, none);
    }

    @Override
    public Void visitCatch(CatchTree tree, Void none) {
      never("nothing in the class needs a catch", tree);
      return super.visitCatch(tree, none);
    }

    @Override
    public Void visitTypeCast(TypeCastTree tree, Void none) {
      never("nothing in the class needs a cast", tree);
      return super.visitTypeCast(tree, none);
    }

    @Override
    public Void visitSynchronized(SynchronizedTree tree, Void none) {
      never("rule 6: synchronized", tree);
      return super.visitSynchronized(tree, none);
    }

    @Override
    public Void visitAssert(AssertTree tree, Void none) {
      never("rule 6: assert", tree);
      return super.visitAssert(tree, none);
    }
  }
}
