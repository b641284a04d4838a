import com.sun.source.tree.AssertTree;
import com.sun.source.tree.BinaryTree;
import com.sun.source.tree.BlockTree;
import com.sun.source.tree.ClassTree;
import com.sun.source.tree.CompilationUnitTree;
import com.sun.source.tree.DoWhileLoopTree;
import com.sun.source.tree.ForLoopTree;
import com.sun.source.tree.LambdaExpressionTree;
import com.sun.source.tree.LiteralTree;
import com.sun.source.tree.MemberReferenceTree;
import com.sun.source.tree.MethodInvocationTree;
import com.sun.source.tree.MethodTree;
import com.sun.source.tree.NewClassTree;
import com.sun.source.tree.SynchronizedTree;
import com.sun.source.tree.ThrowTree;
import com.sun.source.tree.Tree;
import com.sun.source.tree.TryTree;
import com.sun.source.tree.VariableTree;
import com.sun.source.tree.WhileLoopTree;
import com.sun.source.util.JavacTask;
import com.sun.source.util.SourcePositions;
import com.sun.source.util.TreePath;
import com.sun.source.util.TreePathScanner;
import com.sun.source.util.Trees;
import java.util.ArrayList;
import java.util.HashSet;
import java.util.LinkedHashMap;
import java.util.LinkedHashSet;
import java.util.List;
import java.util.Map;
import java.util.Set;
import javax.lang.model.element.Element;
import javax.lang.model.element.Modifier;
import javax.lang.model.type.TypeKind;
import javax.lang.model.type.TypeMirror;
import javax.tools.JavaCompiler;
import javax.tools.StandardJavaFileManager;
import javax.tools.ToolProvider;

/** The rules of LANGUAGE.md that can be seen in the source, by their numbers. */
public final class LanguageTest extends TreePathScanner<Void, Void> {
    private static final int MOST_LINES = 60;
    private static final int MOST_PARAMETERS = 7;
    private static final int MOST_CLASSES = 12;
    private static final int MOST_FIELDS = 20;
    private static final int MOST_DEEP = 8;

    /** All of rule 4 that the class may need; functions of Math and Integer are looked at by their ends. */
    private static final Set<String> LIBRARY = Set.of("String.length", "String.charAt", "String.isEmpty", "String.equals",
        "String.indexOf", "String.substring", "String.toCharArray", "StringBuilder.append", "StringBuilder.charAt",
        "StringBuilder.setCharAt", "StringBuilder.setLength", "StringBuilder.deleteCharAt", "StringBuilder.reverse",
        "StringBuilder.length", "StringBuilder.toString", "ArrayList.add", "ArrayList.get", "ArrayList.set",
        "ArrayList.remove", "ArrayList.size", "ArrayList.isEmpty", "ArrayList.clear", "System.arraycopy",
        "Arrays.copyOf", "Arrays.copyOfRange", "Arrays.fill", "Array.clone", "Object.<init>", "StringBuilder.<init>",
        "ArrayList.<init>");
    private static final Set<String> NUMBERS = Set.of("Math", "Integer", "Long");

    private static int wrong = 0;
    private static int seen = 0;

    private final Trees trees;
    private final CompilationUnitTree unit;
    /** By method of the file: the methods of the file that it calls. */
    private final Map<Element, Set<Element>> calls = new LinkedHashMap<>();
    private int classes = 0;

    private LanguageTest(Trees trees, CompilationUnitTree unit) {
        this.trees = trees;
        this.unit = unit;
    }

    private static void fail(int rule, String what) {
        wrong++;
        System.out.println("rule " + rule + ": " + what);
    }

    private void keep(int rule, boolean kept, Tree at) {
        seen++;
        if (!kept) {
            SourcePositions places = trees.getSourcePositions();
            fail(rule, "line " + unit.getLineMap().getLineNumber(places.getStartPosition(unit, at)) + ": " + at);
        }
    }

    private Element elementOf(Tree tree) {
        return trees.getElement(TreePath.getPath(unit, tree));
    }

    private TypeMirror typeOf(Tree tree) {
        return trees.getTypeMirror(TreePath.getPath(unit, tree));
    }

    private static boolean isText(TypeMirror type) {
        return type != null && type.toString().equals("java.lang.String");
    }

    private static boolean isBoxed(TypeMirror type) {
        return type != null && type.toString().equals("java.lang.Integer");
    }

    // ---- classes and members

    @Override
    public Void visitClass(ClassTree tree, Void unused) {
        boolean inner = getCurrentPath().getParentPath().getLeaf() instanceof ClassTree;
        boolean outer = getCurrentPath().getParentPath().getLeaf() instanceof CompilationUnitTree;
        Set<Modifier> signs = tree.getModifiers().getFlags();
        classes++;
        keep(2, inner || outer, tree);
        keep(1, !outer || signs.contains(Modifier.PUBLIC) && signs.contains(Modifier.FINAL), tree);
        keep(2, !inner || signs.contains(Modifier.STATIC) || tree.getKind() != Tree.Kind.CLASS, tree);
        keep(1, !inner || !signs.contains(Modifier.PUBLIC) && !signs.contains(Modifier.PROTECTED), tree);
        int fields = 0;
        for (Tree member : tree.getMembers()) {
            if (member instanceof VariableTree) {
                fields += ((VariableTree) member).getModifiers().getFlags().contains(Modifier.STATIC) ? 0 : 1;
            }
            keep(5, !(member instanceof BlockTree), member);
        }
        if (fields > MOST_FIELDS) {
            fail(11, fields + " fields in " + tree.getSimpleName());
        }
        return super.visitClass(tree, unused);
    }

    @Override
    public Void visitVariable(VariableTree tree, Void unused) {
        Set<Modifier> signs = tree.getModifiers().getFlags();
        keep(5, !signs.contains(Modifier.STATIC) || signs.contains(Modifier.FINAL), tree);
        return super.visitVariable(tree, unused);
    }

    @Override
    public Void visitMethod(MethodTree tree, Void unused) {
        SourcePositions places = trees.getSourcePositions();
        long from = unit.getLineMap().getLineNumber(Math.max(0, places.getStartPosition(unit, tree)));
        long to = unit.getLineMap().getLineNumber(Math.max(0, places.getEndPosition(unit, tree)));
        if (to - from > MOST_LINES) {
            fail(11, to - from + " lines: " + tree.getName());
        }
        keep(11, tree.getParameters().size() <= MOST_PARAMETERS, tree);
        calls.computeIfAbsent(elementOf(tree), k -> new LinkedHashSet<>());
        return super.visitMethod(tree, unused);
    }

    // ---- what is called

    @Override
    public Void visitMethodInvocation(MethodInvocationTree tree, Void unused) {
        called(elementOf(tree.getMethodSelect()), tree);
        return super.visitMethodInvocation(tree, unused);
    }

    @Override
    public Void visitNewClass(NewClassTree tree, Void unused) {
        keep(2, tree.getClassBody() == null, tree);
        called(elementOf(tree), tree);
        return super.visitNewClass(tree, unused);
    }

    private void called(Element method, Tree tree) {
        Element owner = method == null ? null : method.getEnclosingElement();
        if (owner != null && trees.getTree(method) != null) {
            Element caller = caller();
            if (caller != null) {
                calls.computeIfAbsent(caller, k -> new LinkedHashSet<>()).add(method);
            }
        } else if (owner != null && trees.getTree(owner) == null) {
            String name = owner.getSimpleName() + "." + method.getSimpleName();
            boolean number = NUMBERS.contains(owner.getSimpleName().toString())
                && !method.getSimpleName().toString().endsWith("Exact") && method.getModifiers().contains(Modifier.STATIC);
            keep(4, number || LIBRARY.contains(name), tree);
        }
    }

    private Element caller() {
        for (TreePath path = getCurrentPath(); path != null; path = path.getParentPath()) {
            if (path.getLeaf() instanceof MethodTree) {
                return trees.getElement(path);
            }
        }
        return null;
    }

    // ---- what the language does not have

    @Override
    public Void visitThrow(ThrowTree tree, Void unused) {
        keep(6, false, tree);
        return null;
    }

    @Override
    public Void visitTry(TryTree tree, Void unused) {
        keep(6, false, tree);
        return null;
    }

    @Override
    public Void visitSynchronized(SynchronizedTree tree, Void unused) {
        keep(6, false, tree);
        return null;
    }

    @Override
    public Void visitAssert(AssertTree tree, Void unused) {
        keep(6, false, tree);
        return null;
    }

    @Override
    public Void visitLambdaExpression(LambdaExpressionTree tree, Void unused) {
        keep(2, false, tree);
        return null;
    }

    @Override
    public Void visitMemberReference(MemberReferenceTree tree, Void unused) {
        keep(2, false, tree);
        return null;
    }

    @Override
    public Void visitBinary(BinaryTree tree, Void unused) {
        TypeMirror left = typeOf(tree.getLeftOperand());
        TypeMirror right = typeOf(tree.getRightOperand());
        boolean same = tree.getKind() == Tree.Kind.EQUAL_TO || tree.getKind() == Tree.Kind.NOT_EQUAL_TO;
        boolean nothing = left.getKind() == TypeKind.NULL || right.getKind() == TypeKind.NULL;
        keep(6, !same || nothing || !isText(left) && !isBoxed(left) && !isText(right) && !isBoxed(right), tree);
        keep(10, tree.getKind() != Tree.Kind.PLUS || !isText(left) && !isText(right), tree);
        return super.visitBinary(tree, unused);
    }

    @Override
    public Void visitLiteral(LiteralTree tree, Void unused) {
        if (tree.getValue() instanceof String) {
            keep(4, ((String) tree.getValue()).chars().allMatch(sign -> sign >= 1 && sign <= 127), tree);
        }
        return super.visitLiteral(tree, unused);
    }

    // ---- loops

    @Override
    public Void visitForLoop(ForLoopTree tree, Void unused) {
        keep(9, tree.getCondition() != null && !isTrue(tree.getCondition()), tree);
        return super.visitForLoop(tree, unused);
    }

    @Override
    public Void visitWhileLoop(WhileLoopTree tree, Void unused) {
        keep(9, !isTrue(tree.getCondition()), tree);
        return super.visitWhileLoop(tree, unused);
    }

    @Override
    public Void visitDoWhileLoop(DoWhileLoopTree tree, Void unused) {
        keep(9, !isTrue(tree.getCondition()), tree);
        return super.visitDoWhileLoop(tree, unused);
    }

    private static boolean isTrue(Tree condition) {
        return condition.toString().replaceAll("[()]", "").equals("true");
    }

    // ---- how deep calls go

    /** The longest chain of calls from a method, each method in it once. */
    private List<Element> longestChain(Element from, Set<Element> open) {
        List<Element> longest = new ArrayList<>();
        open.add(from);
        for (Element next : calls.getOrDefault(from, Set.of())) {
            if (!open.contains(next)) {
                List<Element> chain = longestChain(next, open);
                longest = chain.size() > longest.size() ? chain : longest;
            }
        }
        open.remove(from);
        List<Element> told = new ArrayList<>(List.of(from));
        told.addAll(longest);
        return told;
    }

    private void depth() {
        for (Element method : calls.keySet()) {
            List<Element> chain = longestChain(method, new HashSet<>());
            seen++;
            if (chain.size() > MOST_DEEP) {
                fail(11, chain.size() + " deep: " + chain);
            }
        }
    }

    private void whole() {
        scan(unit, null);
        depth();
        if (unit.getPackage() != null) {
            fail(1, "a package");
        }
        if (unit.getTypeDecls().size() != 1 || classes > MOST_CLASSES) {
            fail(11, classes + " classes, " + unit.getTypeDecls().size() + " in the file itself");
        }
    }

    public static void main(String[] args) throws Exception {
        String source = args.length > 0 ? args[0] : "src/main/java/ScansionDesk.java";
        JavaCompiler compiler = ToolProvider.getSystemJavaCompiler();
        try (StandardJavaFileManager files = compiler.getStandardFileManager(null, null, null)) {
            JavacTask task = (JavacTask) compiler.getTask(null, files, null, List.of("-proc:none"), null,
                files.getJavaFileObjects(source));
            Iterable<? extends CompilationUnitTree> units = task.parse();
            task.analyze();
            for (CompilationUnitTree unit : units) {
                new LanguageTest(Trees.instance(task), unit).whole();
            }
        }
        System.out.println(seen + " places looked at, " + wrong + " not as the language asks");
        if (wrong != 0 || seen == 0) {
            System.exit(1);
        }
    }
}
