import com.sun.source.tree.AssertTree;
import com.sun.source.tree.BinaryTree;
import com.sun.source.tree.ClassTree;
import com.sun.source.tree.CompilationUnitTree;
import com.sun.source.tree.DoWhileLoopTree;
import com.sun.source.tree.EnhancedForLoopTree;
import com.sun.source.tree.ForLoopTree;
import com.sun.source.tree.ImportTree;
import com.sun.source.tree.InstanceOfTree;
import com.sun.source.tree.LambdaExpressionTree;
import com.sun.source.tree.LiteralTree;
import com.sun.source.tree.MemberReferenceTree;
import com.sun.source.tree.MethodInvocationTree;
import com.sun.source.tree.MethodTree;
import com.sun.source.tree.NewArrayTree;
import com.sun.source.tree.NewClassTree;
import com.sun.source.tree.SynchronizedTree;
import com.sun.source.tree.ThrowTree;
import com.sun.source.tree.Tree;
import com.sun.source.tree.TryTree;
import com.sun.source.tree.TypeCastTree;
import com.sun.source.tree.VariableTree;
import com.sun.source.tree.WhileLoopTree;
import com.sun.source.util.JavacTask;
import com.sun.source.util.TreePath;
import com.sun.source.util.TreePathScanner;
import com.sun.source.util.Trees;
import java.io.IOException;
import java.nio.file.Files;
import java.nio.file.Path;
import java.util.ArrayList;
import java.util.HashMap;
import java.util.HashSet;
import java.util.List;
import java.util.Map;
import java.util.Set;
import java.util.TreeMap;
import java.util.TreeSet;
import javax.lang.model.element.Element;
import javax.lang.model.element.Modifier;
import javax.lang.model.type.TypeMirror;
import javax.tools.JavaCompiler;
import javax.tools.StandardJavaFileManager;
import javax.tools.ToolProvider;

/** What of LANGUAGE.md can be seen from the file as javac reads it; each rule by its number there. */
public final class RulesTest extends TreePathScanner<Void, Void> {
    private static final Path FILE = Path.of("src/main/java/SkiMountain.java");
    private static final Path DOCUMENT = Path.of("../shared/DOC.md");
    private static final int MOST_CLASSES = 12;
    private static final int MOST_FIELDS = 20;
    private static final int MOST_LINES = 60;
    private static final int MOST_PARAMETERS = 7;
    private static final int MOST_DEEP = 8;

    /** All of the library that the file uses; what is added here must stand in rule 4. */
    private static final Set<String> LIBRARY = Set.of("java.lang.String.length()", "java.lang.String.charAt(int)",
        "java.lang.String.indexOf(int)", "java.lang.Math.max(int,int)", "java.lang.Math.min(int,int)",
        "java.util.Arrays.fill(int[],int)");
    private static final Set<String> TYPES = Set.of("int", "long", "short", "byte", "char", "boolean", "int[]", "long[]",
        "short[]", "byte[]", "char[]", "boolean[]", "java.lang.String");
    /** Each row of methods that call one another has a guard on its depth, which was looked at by eye. */
    private static final Set<String> RECURSIONS = Set.of("[Law.readBoth, Law.readEither, Law.readNested, Law.readOne]",
        "[Sweeps.goDown, Sweeps.goOn]");

    private final Trees trees;
    private final CompilationUnitTree unit;
    private final Map<String, Set<String>> calls = new TreeMap<>();
    private final Set<String> face = new TreeSet<>();
    private final Set<String> hidden = new HashSet<>();
    private int classes;
    private int loops;

    private RulesTest(Trees trees, CompilationUnitTree unit) {
        this.trees = trees;
        this.unit = unit;
    }

    public static void main(String[] args) throws IOException {
        JavaCompiler compiler = ToolProvider.getSystemJavaCompiler();
        try (StandardJavaFileManager files = compiler.getStandardFileManager(null, null, null)) {
            JavacTask task = (JavacTask) compiler.getTask(null, files, null, List.of("-proc:none"), null,
                files.getJavaFileObjects(FILE));
            CompilationUnitTree unit = task.parse().iterator().next();
            task.analyze();
            RulesTest rules = new RulesTest(Trees.instance(task), unit);
            rules.scan(unit, null);
            rules.theText();
            rules.theFace();
            rules.theCalls();
        }
        Check.close();
    }

    private void wrong(String rule, Tree at) {
        long line = unit.getLineMap().getLineNumber(trees.getSourcePositions().getStartPosition(unit, at));
        Check.due("rule " + rule + " at line " + line, 1, 0);
    }

    private void holds(boolean good, String rule, Tree at) {
        if (good) {
            Check.due(rule, 0, 0);
        } else {
            wrong(rule, at);
        }
    }

    /** Not a rule, but what keeps the file readable everywhere. */
    private void theText() throws IOException {
        List<String> lines = Files.readAllLines(FILE);
        for (int n = 0; n < lines.size(); n++) {
            Check.due("line " + (n + 1) + " is plain and short", lines.get(n).matches("[ -~]{0,110}"), true);
        }
    }

    private static boolean isOurs(String name) {
        return name.equals("SkiMountain") || name.startsWith("SkiMountain.");
    }

    private static boolean isKnownType(String name) {
        return TYPES.contains(name) || isOurs(name);
    }

    // ---- 1, 2, 5, 11: classes, their members

    @Override
    public Void visitCompilationUnit(CompilationUnitTree node, Void p) {
        holds(node.getPackage() == null, "1: no package", node);
        holds(node.getTypeDecls().size() == 1, "1: one public class", node);
        return super.visitCompilationUnit(node, p);
    }

    @Override
    public Void visitImport(ImportTree node, Void p) {
        String name = node.getQualifiedIdentifier().toString();
        holds(name.equals("java.util.Arrays") && !node.isStatic(), "4: import", node);
        return null;
    }

    @Override
    public Void visitClass(ClassTree node, Void p) {
        classes++;
        Set<Modifier> signs = node.getModifiers().getFlags();
        boolean top = getCurrentPath().getParentPath().getLeaf() == unit;
        holds(signs.contains(Modifier.FINAL), "1: final", node);
        holds(top == signs.contains(Modifier.PUBLIC), "1: one public class", node);
        holds(top || signs.contains(Modifier.STATIC), "2: static", node);
        holds(top || getCurrentPath().getParentPath().getParentPath().getLeaf() == unit, "2: not local", node);
        holds(node.getExtendsClause() == null && node.getImplementsClause().isEmpty(), "2: of the file alone", node);
        int fields = 0;
        for (Tree member : node.getMembers()) {
            boolean isStatic = member instanceof VariableTree
                && ((VariableTree) member).getModifiers().getFlags().contains(Modifier.STATIC);
            fields += member instanceof VariableTree && !isStatic ? 1 : 0;
            holds(member.getKind() != Tree.Kind.BLOCK, "5: no initialiser block", member);
        }
        holds(fields <= MOST_FIELDS, "11: fields of a class", node);
        holds(classes <= MOST_CLASSES, "11: classes", node);
        return super.visitClass(node, p);
    }

    @Override
    public Void visitVariable(VariableTree node, Void p) {
        TypeMirror type = trees.getTypeMirror(getCurrentPath());
        String name = type.toString();
        boolean ofOurs = name.endsWith("[]") && isOurs(name.substring(0, name.length() - 2));
        holds(isKnownType(name) || ofOurs, "3: the type " + name, node);
        Set<Modifier> signs = node.getModifiers().getFlags();
        if (signs.contains(Modifier.STATIC)) {
            holds(signs.contains(Modifier.FINAL), "5: static fields are final", node);
            holds(!ofOurs && !isOurs(name) && !name.equals("boolean[]"), "5: constants", node);
        }
        if (getCurrentPath().getParentPath().getLeaf() instanceof ClassTree) {
            boolean isNone = node.getName().contentEquals("NONE") && signs.contains(Modifier.PUBLIC);
            holds(isNone || signs.contains(Modifier.PRIVATE), "1: fields are private", node);
        }
        return super.visitVariable(node, p);
    }

    @Override
    public Void visitMethod(MethodTree node, Void p) {
        Element element = trees.getElement(getCurrentPath());
        boolean top = element.getEnclosingElement().toString().equals("SkiMountain");
        Set<Modifier> signs = node.getModifiers().getFlags();
        boolean isMade = node.getName().contentEquals("<init>");
        if (signs.contains(Modifier.PUBLIC)) {
            holds(top, "1: the face alone is public", node);
            face.add(element.toString());
        } else {
            holds(!top || signs.contains(Modifier.PRIVATE), "1: the rest is private", node);
            hidden.add(node.getName().toString());
        }
        String name = node.getName().toString();
        holds(isMade || !Set.of("equals", "hashCode", "toString").contains(name), "6: " + name, node);
        holds(node.getParameters().size() <= MOST_PARAMETERS, "11: parameters", node);
        holds(linesOf(node) <= MOST_LINES, "11: lines of a method", node);
        holds(node.getTypeParameters().isEmpty(), "3: types", node);
        calls.computeIfAbsent(nameOf(element), x -> new TreeSet<>());
        return super.visitMethod(node, p);
    }

    private long linesOf(Tree node) {
        long start = trees.getSourcePositions().getStartPosition(unit, node);
        long end = trees.getSourcePositions().getEndPosition(unit, node);
        return unit.getLineMap().getLineNumber(end) - unit.getLineMap().getLineNumber(start) + 1;
    }

    private static String nameOf(Element method) {
        String owner = method.getEnclosingElement().toString();
        String own = owner.equals("SkiMountain") ? "" : owner.substring("SkiMountain.".length()) + ".";
        return own + method.getSimpleName();
    }

    /** The public members are those of the document, to the letter. */
    private void theFace() throws IOException {
        Set<String> due = new TreeSet<>();
        for (String line : Files.readAllLines(DOCUMENT)) {
            if (line.startsWith("    public ") && line.endsWith(");")) {
                String head = line.substring(0, line.length() - 1).replaceAll("(\\(|, )(\\w+) \\w+", "$1$2").replace(", ", ",");
                due.add(head.substring(head.lastIndexOf(' ') + 1));
            }
        }
        Check.due("the document's face " + due.size(), due.size(), 30);
        Check.due("face " + face + ", due is " + due, face.equals(due), true);
        for (String name : face) {
            String plain = name.substring(0, name.indexOf('('));
            Check.due("rule 1: " + plain + " is public", hidden.contains(plain), false);
        }
    }

    // ---- 4, 6, 8, 12: calls, what is made

    private Element inMethod() {
        for (TreePath at = getCurrentPath(); at != null; at = at.getParentPath()) {
            if (at.getLeaf() instanceof MethodTree) {
                return trees.getElement(at);
            }
        }
        return null;
    }

    @Override
    public Void visitMethodInvocation(MethodInvocationTree node, Void p) {
        Element method = trees.getElement(getCurrentPath());
        String owner = method.getEnclosingElement().toString();
        if (isOurs(owner)) {
            calls.computeIfAbsent(nameOf(inMethod()), x -> new TreeSet<>()).add(nameOf(method));
        } else {
            boolean first = owner.equals("java.lang.Object") && method.getSimpleName().contentEquals("<init>");
            holds(first || LIBRARY.contains(owner + "." + method), "4: " + owner + "." + method, node);
        }
        return super.visitMethodInvocation(node, p);
    }

    @Override
    public Void visitNewClass(NewClassTree node, Void p) {
        holds(isOurs(trees.getTypeMirror(getCurrentPath()).toString()), "4: new", node);
        holds(node.getClassBody() == null, "2: no anonymous class", node);
        holds(loops == 0, "12: made in a loop", node);
        return super.visitNewClass(node, p);
    }

    @Override
    public Void visitNewArray(NewArrayTree node, Void p) {
        holds(loops == 0, "12: made in a loop", node);
        return super.visitNewArray(node, p);
    }

    /** How deep calls go, a row of methods that call one another being one. */
    private void theCalls() {
        Map<String, Set<String>> reached = new HashMap<>();
        for (String name : calls.keySet()) {
            reached.put(name, behind(name));
        }
        Set<String> recursions = new TreeSet<>();
        for (String name : calls.keySet()) {
            Set<String> row = rowOf(name, reached);
            if (!row.isEmpty()) {
                recursions.add(row.toString());
            }
            int deep = depth(row.isEmpty() ? Set.of(name) : row, reached);
            Check.due("rule 11: calls from " + name + " go " + deep + " deep", deep > MOST_DEEP, false);
        }
        Check.due("rule 8: recursions " + recursions, recursions.equals(RECURSIONS), true);
        Check.due("methods are found", calls.size() > 100, true);
    }

    private Set<String> behind(String name) {
        Set<String> all = new TreeSet<>();
        List<String> next = new ArrayList<>(calls.get(name));
        while (!next.isEmpty()) {
            String one = next.remove(next.size() - 1);
            if (all.add(one)) {
                next.addAll(calls.get(one));
            }
        }
        return all;
    }

    private static Set<String> rowOf(String name, Map<String, Set<String>> reached) {
        Set<String> row = new TreeSet<>();
        for (String other : reached.get(name)) {
            if (reached.get(other).contains(name)) {
                row.add(other);
            }
        }
        return row;
    }

    private int depth(Set<String> row, Map<String, Set<String>> reached) {
        int most = 0;
        for (String name : row) {
            for (String called : calls.get(name)) {
                if (!row.contains(called)) {
                    Set<String> next = rowOf(called, reached);
                    most = Math.max(most, depth(next.isEmpty() ? Set.of(called) : next, reached));
                }
            }
        }
        return most + 1;
    }

    // ---- 3, 6, 9, 10: what stands in methods

    @Override
    public Void visitForLoop(ForLoopTree node, Void p) {
        holds(node.getCondition() != null && !node.getUpdate().isEmpty(), "9: an end", node);
        loops++;
        super.visitForLoop(node, p);
        loops--;
        return null;
    }

    @Override
    public Void visitEnhancedForLoop(EnhancedForLoopTree node, Void p) {
        loops++;
        super.visitEnhancedForLoop(node, p);
        loops--;
        return null;
    }

    @Override
    public Void visitWhileLoop(WhileLoopTree node, Void p) {
        holds(node.getCondition().toString().contains(" < "), "9: an end", node);
        loops++;
        super.visitWhileLoop(node, p);
        loops--;
        return null;
    }

    @Override
    public Void visitDoWhileLoop(DoWhileLoopTree node, Void p) {
        holds(node.getCondition().toString().contains(" < "), "9: an end", node);
        loops++;
        super.visitDoWhileLoop(node, p);
        loops--;
        return null;
    }

    @Override
    public Void visitBinary(BinaryTree node, Void p) {
        for (Tree side : List.of(node.getLeftOperand(), node.getRightOperand())) {
            String type = trees.getTypeMirror(new TreePath(getCurrentPath(), side)).toString();
            holds(!type.startsWith("java."), "6, 10: " + node.getKind() + " of " + type, node);
        }
        return super.visitBinary(node, p);
    }

    @Override
    public Void visitLiteral(LiteralTree node, Void p) {
        if (node.getValue() instanceof String) {
            holds(((String) node.getValue()).matches("[\\x01-\\x7f]*"), "4: constants", node);
        }
        return null;
    }

    @Override
    public Void visitTypeCast(TypeCastTree node, Void p) {
        holds(trees.getTypeMirror(getCurrentPath()).getKind().isPrimitive(), "6: a cast", node);
        return super.visitTypeCast(node, p);
    }

    @Override
    public Void visitThrow(ThrowTree node, Void p) {
        wrong("6: throw", node);
        return null;
    }

    @Override
    public Void visitTry(TryTree node, Void p) {
        wrong("6: try", node);
        return null;
    }

    @Override
    public Void visitSynchronized(SynchronizedTree node, Void p) {
        wrong("6: synchronized", node);
        return null;
    }

    @Override
    public Void visitAssert(AssertTree node, Void p) {
        wrong("6: assert", node);
        return null;
    }

    @Override
    public Void visitInstanceOf(InstanceOfTree node, Void p) {
        wrong("6: instanceof, for which there is no need here", node);
        return null;
    }

    @Override
    public Void visitLambdaExpression(LambdaExpressionTree node, Void p) {
        wrong("2: no lambda", node);
        return null;
    }

    @Override
    public Void visitMemberReference(MemberReferenceTree node, Void p) {
        wrong("2: no method reference", node);
        return null;
    }
}
