import com.sun.source.tree.AnnotationTree;
import com.sun.source.tree.ArrayTypeTree;
import com.sun.source.tree.AssertTree;
import com.sun.source.tree.BinaryTree;
import com.sun.source.tree.ClassTree;
import com.sun.source.tree.CompilationUnitTree;
import com.sun.source.tree.CompoundAssignmentTree;
import com.sun.source.tree.DoWhileLoopTree;
import com.sun.source.tree.EnhancedForLoopTree;
import com.sun.source.tree.ExpressionTree;
import com.sun.source.tree.ForLoopTree;
import com.sun.source.tree.LambdaExpressionTree;
import com.sun.source.tree.LineMap;
import com.sun.source.tree.LiteralTree;
import com.sun.source.tree.MemberReferenceTree;
import com.sun.source.tree.MethodInvocationTree;
import com.sun.source.tree.MethodTree;
import com.sun.source.tree.NewArrayTree;
import com.sun.source.tree.NewClassTree;
import com.sun.source.tree.ParenthesizedTree;
import com.sun.source.tree.SynchronizedTree;
import com.sun.source.tree.ThrowTree;
import com.sun.source.tree.Tree;
import com.sun.source.tree.TryTree;
import com.sun.source.tree.TypeCastTree;
import com.sun.source.tree.UnaryTree;
import com.sun.source.tree.VariableTree;
import com.sun.source.tree.WhileLoopTree;
import com.sun.source.util.JavacTask;
import com.sun.source.util.TreePath;
import com.sun.source.util.TreePathScanner;
import com.sun.source.util.Trees;
import java.nio.charset.StandardCharsets;
import java.nio.file.Files;
import java.nio.file.Path;
import java.util.ArrayList;
import java.util.HashMap;
import java.util.HashSet;
import java.util.LinkedHashMap;
import java.util.List;
import java.util.Map;
import java.util.Set;
import java.util.TreeSet;
import java.util.regex.Matcher;
import java.util.regex.Pattern;
import javax.lang.model.element.Element;
import javax.lang.model.element.ElementKind;
import javax.lang.model.element.ExecutableElement;
import javax.lang.model.element.Modifier;
import javax.lang.model.type.TypeKind;
import javax.lang.model.type.TypeMirror;
import javax.tools.JavaCompiler;
import javax.tools.StandardJavaFileManager;
import javax.tools.ToolProvider;

/**
 * The file keeps to ../shared/LANGUAGE.md, rule by rule, as far as the compiler's own tree of it
 * shows. It is narrower than the rules where the program is: what the program comes to use of what
 * they allow is added here.
 */
public final class LanguageTest extends TreePathScanner<Void, Void> {
    private static final Check CHECK = new Check();
    private static final Path PROGRAM = Path.of("src/main/java/DrawnBallots.java");

    private static final Set<String> TYPES = Set.of("void", "int", "long", "boolean", "byte", "char", "double",
        "java.lang.String", "int[]", "long[]", "byte[]", "long[][]", "DrawnBallots.Contest[]");
    private static final Set<String> STATIC_TYPES = Set.of("int", "long", "boolean", "char", "java.lang.String");
    private static final Set<String> LIBRARY = Set.of("java.lang.String.length()", "java.lang.String.charAt(int)",
        "java.lang.Math.min(int,int)", "java.lang.Math.max(int,int)", "java.lang.Math.min(long,long)",
        "java.lang.Math.max(long,long)", "java.util.Arrays.fill(int[],int)", "java.util.Arrays.fill(long[],long)",
        "java.lang.System.arraycopy(java.lang.Object,int,java.lang.Object,int,int)");
    private static final Set<Tree.Kind> OF_DOUBLES = Set.of(Tree.Kind.PLUS, Tree.Kind.MINUS, Tree.Kind.MULTIPLY,
        Tree.Kind.DIVIDE, Tree.Kind.LESS_THAN, Tree.Kind.GREATER_THAN, Tree.Kind.LESS_THAN_EQUAL,
        Tree.Kind.GREATER_THAN_EQUAL, Tree.Kind.MULTIPLY_ASSIGNMENT);
    private static final Set<String> THROWN = Set.of("java.lang.IllegalArgumentException",
        "java.util.NoSuchElementException");
    /** The calls that may come back to themselves; a depth that is handed on guards them. */
    private static final String RECURSION = "[readBoth, readFact, readTest]";

    private final Trees trees;
    private final LineMap lines;
    private final Map<Element, MethodTree> methods = new LinkedHashMap<>();
    private final Map<Element, Set<Element>> calls = new HashMap<>();
    private final Map<Element, Set<String>> thrown = new HashMap<>();
    private int classes = 0;

    private LanguageTest(Trees trees, LineMap lines) {
        this.trees = trees;
        this.lines = lines;
    }

    public static void main(String[] args) throws Exception {
        JavaCompiler compiler = ToolProvider.getSystemJavaCompiler();
        try (StandardJavaFileManager files = compiler.getStandardFileManager(null, null, StandardCharsets.UTF_8)) {
            JavacTask task = (JavacTask) compiler.getTask(null, files, null, List.of("-Xlint:all", "-proc:none"), null,
                files.getJavaFileObjects(PROGRAM));
            CompilationUnitTree unit = task.parse().iterator().next();
            task.analyze();
            CHECK.due("rule 1: the file has a package line", unit.getPackageName() != null, false);
            CHECK.due("rule 1: classes of the file beside those inside", unit.getTypeDecls().size(), 1);
            CHECK.due("rule 4: imports", unit.getImports().toString().replace("\n", ""),
                "import java.util.Arrays;,import java.util.NoSuchElementException;");
            LanguageTest test = new LanguageTest(Trees.instance(task), unit.getLineMap());
            test.scan(unit, null);
            test.whole();
        }
        CHECK.end();
    }

    /** What shows only when all methods are known. */
    private void whole() throws Exception {
        CHECK.due("rule 11: twelve classes at most", classes <= 12, true);
        Set<String> again = new TreeSet<>();
        for (Element m : methods.keySet()) {
            if (reached(calls.get(m)).contains(m)) {
                again.add(m.getSimpleName().toString());
            }
        }
        CHECK.due("rule 8: the methods that come back to themselves", again.toString(), RECURSION);
        Map<String, String> face = thrownByTheFace();
        int faced = 0;
        for (Element m : methods.keySet()) {
            String name = m.getSimpleName().toString();
            CHECK.due("rule 11: calls behind " + name + " at most eight deep", depth(m) <= 8, true);
            if (m.getModifiers().contains(Modifier.PUBLIC) && m.getKind() == ElementKind.METHOD) {
                Set<String> may = new TreeSet<>(thrown.get(m));
                reached(calls.get(m)).forEach(other -> may.addAll(thrown.getOrDefault(other, Set.of())));
                CHECK.due("rule 6: what " + name + " may throw", may.toString(), face.get(name));
                faced++;
            } else {
                CHECK.due("rule 1: " + name + " is a public one's name", face.containsKey(name), false);
            }
        }
        CHECK.due("methods of the face", faced, face.size());
    }

    /** Of each method in the document's face what it throws. */
    private static Map<String, String> thrownByTheFace() throws Exception {
        Map<String, String> face = new HashMap<>();
        String document = Files.readString(Path.of("../shared/DOC.md"), StandardCharsets.UTF_8);
        String told = document.substring(document.indexOf("## The public face"), document.indexOf("## Terms"));
        Matcher m = Pattern.compile("(?m)^ {4}public \\w+ (\\w+)\\([^)]*\\)(?: throws ([\\w, ]+))?;$").matcher(told);
        while (m.find()) {
            Set<String> names = new TreeSet<>();
            for (String name : m.group(2) == null ? new String[0] : m.group(2).split(", ")) {
                names.add((name.startsWith("NoSuch") ? "java.util." : "java.lang.") + name);
            }
            face.put(m.group(1), names.toString());
        }
        return face;
    }

    private Set<Element> reached(Set<Element> from) {
        Set<Element> seen = new HashSet<>();
        List<Element> next = new ArrayList<>(from);
        while (!next.isEmpty()) {
            Element m = next.remove(next.size() - 1);
            if (seen.add(m)) {
                next.addAll(calls.getOrDefault(m, Set.of()));
            }
        }
        return seen;
    }

    /** How many calls of the program stand open at most from a method on; those of one recursion count once. */
    private int depth(Element m) {
        Set<Element> behind = reached(calls.get(m));
        int deepest = 0;
        for (Element other : behind) {
            boolean isBesideMe = reached(calls.getOrDefault(other, Set.of())).contains(m);
            if (methods.containsKey(other) && other != m && !isBesideMe) {
                deepest = Math.max(deepest, depth(other));
            }
        }
        return 1 + deepest;
    }

    private String at(Tree tree) {
        long place = trees.getSourcePositions().getStartPosition(getCurrentPath().getCompilationUnit(), tree);
        return "line " + lines.getLineNumber(place) + ": ";
    }

    private int linesOf(Tree tree) {
        CompilationUnitTree unit = getCurrentPath().getCompilationUnit();
        long from = trees.getSourcePositions().getStartPosition(unit, tree);
        long to = trees.getSourcePositions().getEndPosition(unit, tree);
        return (int) (lines.getLineNumber(to) - lines.getLineNumber(from)) + 1;
    }

    private TypeMirror typeOf(Tree tree) {
        return trees.getTypeMirror(new TreePath(getCurrentPath(), tree));
    }

    private Element elementOf(Tree tree) {
        return trees.getElement(new TreePath(getCurrentPath(), tree));
    }

    private void never(Tree tree, String what) {
        CHECK.due(at(tree) + "what the rules don't allow or the program doesn't use", what, "nothing such");
    }

    private boolean isAllowed(TypeMirror type) {
        String name = type.toString();
        return TYPES.contains(name) || name.matches("DrawnBallots\\.\\w+");
    }

    private MethodTree methodHere() {
        for (TreePath path = getCurrentPath(); path != null; path = path.getParentPath()) {
            if (path.getLeaf() instanceof MethodTree) {
                return (MethodTree) path.getLeaf();
            }
        }
        return null;
    }

    private Element methodElement() {
        for (TreePath path = getCurrentPath(); path != null; path = path.getParentPath()) {
            if (path.getLeaf() instanceof MethodTree) {
                return trees.getElement(path);
            }
        }
        return null;
    }

    private boolean isInConstructor() {
        MethodTree here = methodHere();
        return here == null || here.getReturnType() == null;
    }

    @Override
    public Void visitClass(ClassTree tree, Void none) {
        classes++;
        Element of = trees.getElement(getCurrentPath());
        Tree around = getCurrentPath().getParentPath().getLeaf();
        boolean isInside = around instanceof ClassTree;
        CHECK.due(at(tree) + "rule 2: a class stands in a class or the file", isInside || of.getModifiers().contains(
            Modifier.PUBLIC), true);
        CHECK.due(at(tree) + "rule 2: only classes", tree.getKind() == Tree.Kind.CLASS, true);
        if (isInside) {
            Set<Modifier> modifiers = of.getModifiers();
            CHECK.due(at(tree) + "rule 1: private or package-visible and static", modifiers.contains(Modifier.STATIC)
                && !modifiers.contains(Modifier.PUBLIC) && !modifiers.contains(Modifier.PROTECTED), true);
        }
        int fields = 0;
        for (Tree member : tree.getMembers()) {
            CHECK.due(at(member) + "rule 5: no initialiser block", member.getKind() == Tree.Kind.BLOCK, false);
            if (member instanceof VariableTree && !elementOf(member).getModifiers().contains(Modifier.STATIC)) {
                fields++;
            }
        }
        CHECK.due(at(tree) + "rule 11: twenty fields at most", fields <= 20, true);
        return super.visitClass(tree, none);
    }

    @Override
    public Void visitMethod(MethodTree tree, Void none) {
        Element of = trees.getElement(getCurrentPath());
        methods.put(of, tree);
        calls.put(of, new HashSet<>());
        thrown.put(of, new TreeSet<>());
        CHECK.due(at(tree) + "rule 11: seven parameters at most", tree.getParameters().size() <= 7, true);
        CHECK.due(at(tree) + "rule 11: sixty lines at most", linesOf(tree) <= 60, true);
        CHECK.due(at(tree) + "rule 3: what it answers", isAllowed(((ExecutableElement) of).getReturnType()), true);
        CHECK.due(at(tree) + "rule 6: no equals, hashCode, toString", Set.of("equals", "hashCode", "toString")
            .contains(tree.getName().toString()), false);
        return super.visitMethod(tree, none);
    }

    @Override
    public Void visitVariable(VariableTree tree, Void none) {
        Element of = trees.getElement(getCurrentPath());
        String type = of.asType().toString();
        CHECK.due(at(tree) + "rule 3: the type " + type, isAllowed(of.asType()), true);
        if (of.getKind() == ElementKind.FIELD && of.getModifiers().contains(Modifier.STATIC)) {
            CHECK.due(at(tree) + "rule 5: a static field is final and of " + type,
                of.getModifiers().contains(Modifier.FINAL) && STATIC_TYPES.contains(type), true);
        }
        return super.visitVariable(tree, none);
    }

    @Override
    public Void visitMethodInvocation(MethodInvocationTree tree, Void none) {
        ExecutableElement of = (ExecutableElement) trees.getElement(getCurrentPath());
        String owner = of.getEnclosingElement().toString();
        boolean isImplied = of.getKind() == ElementKind.CONSTRUCTOR;
        if (!owner.startsWith("DrawnBallots") && !isImplied) {
            CHECK.due(at(tree) + "rule 4: " + owner + "." + of, LIBRARY.contains(owner + "." + of), true);
        }
        Element here = methodElement();
        if (here != null && !isImplied) {
            calls.get(here).add(of);
            if (here.getKind() == ElementKind.CONSTRUCTOR) {
                CHECK.due(at(tree) + "rule 12: a constructor calls what no other class overrides",
                    of.getEnclosingElement().equals(here.getEnclosingElement()), true);
            }
        }
        return super.visitMethodInvocation(tree, none);
    }

    @Override
    public Void visitNewClass(NewClassTree tree, Void none) {
        boolean isThrown = getCurrentPath().getParentPath().getLeaf() instanceof ThrowTree;
        CHECK.due(at(tree) + "rule 12: objects are made by constructors, or thrown", isThrown || isInConstructor(), true);
        CHECK.due(at(tree) + "rule 2: no class without a name", tree.getClassBody() != null, false);
        if (isThrown) {
            for (ExpressionTree argument : tree.getArguments()) {
                CHECK.due(at(tree) + "rule 6: a written text", argument.getKind() == Tree.Kind.STRING_LITERAL, true);
            }
        }
        return super.visitNewClass(tree, none);
    }

    @Override
    public Void visitNewArray(NewArrayTree tree, Void none) {
        CHECK.due(at(tree) + "rule 12: rows are made by constructors", isInConstructor(), true);
        for (ExpressionTree length : tree.getDimensions()) {
            CHECK.due(at(tree) + "rule 7: a row's length is a constant", length.toString()
                .matches("[0-9]+|[A-Z_]+( \\+ 1)?"), true);
        }
        return super.visitNewArray(tree, none);
    }

    @Override
    public Void visitThrow(ThrowTree tree, Void none) {
        String type = typeOf(tree.getExpression()).toString();
        CHECK.due(at(tree) + "rule 6: throw new " + type, THROWN.contains(type)
            && tree.getExpression() instanceof NewClassTree, true);
        CHECK.due(at(tree) + "rule 6: no throw in a constructor", isInConstructor(), false);
        thrown.get(methodElement()).add(type);
        return super.visitThrow(tree, none);
    }

    @Override
    public Void visitBinary(BinaryTree tree, Void none) {
        TypeMirror left = typeOf(tree.getLeftOperand());
        TypeMirror right = typeOf(tree.getRightOperand());
        if (isFraction(left) || isFraction(right)) {
            CHECK.due(at(tree) + "rule 3: on doubles " + tree.getKind(), OF_DOUBLES.contains(tree.getKind()), true);
        }
        for (TypeMirror type : new TypeMirror[] {left, right}) {
            CHECK.due(at(tree) + "rules 6, 10: no texts joined or compared by signs", type.toString()
                .equals("java.lang.String"), false);
        }
        if (tree.getKind() == Tree.Kind.DIVIDE || tree.getKind() == Tree.Kind.REMAINDER) {
            divisor(tree, tree.getRightOperand());
        }
        return super.visitBinary(tree, none);
    }

    @Override
    public Void visitCompoundAssignment(CompoundAssignmentTree tree, Void none) {
        if (isFraction(typeOf(tree.getVariable()))) {
            CHECK.due(at(tree) + "rule 3: on doubles " + tree.getKind(), OF_DOUBLES.contains(tree.getKind()), true);
        }
        if (tree.getKind() == Tree.Kind.DIVIDE_ASSIGNMENT || tree.getKind() == Tree.Kind.REMAINDER_ASSIGNMENT) {
            divisor(tree, tree.getExpression());
        }
        return super.visitCompoundAssignment(tree, none);
    }

    private static boolean isFraction(TypeMirror type) {
        return type != null && (type.getKind() == TypeKind.DOUBLE || type.getKind() == TypeKind.FLOAT);
    }

    /** A divisor is a constant, or what the same method asks whether it is above 0. */
    private void divisor(Tree at, ExpressionTree divisor) {
        ExpressionTree plain = divisor;
        while (plain instanceof ParenthesizedTree || plain instanceof TypeCastTree) {
            plain = plain instanceof TypeCastTree ? ((TypeCastTree) plain).getExpression()
                : ((ParenthesizedTree) plain).getExpression();
        }
        String name = plain.toString();
        boolean isConstant = name.matches("[1-9][0-9]*") || name.matches("[A-Z]+(_[A-Z]+)*");
        String body = methodHere().getBody().toString();
        CHECK.due(at(at) + "rule 7: the divisor " + name + " is looked at", isConstant || body.contains(name + " <= 0")
            || body.contains(name + " > 0"), true);
    }

    @Override
    public Void visitTypeCast(TypeCastTree tree, Void none) {
        CHECK.due(at(tree) + "rule 7: casts of numbers alone", typeOf(tree.getType()).getKind().isPrimitive(), true);
        return super.visitTypeCast(tree, none);
    }

    @Override
    public Void visitForLoop(ForLoopTree tree, Void none) {
        CHECK.due(at(tree) + "rule 9: the loop has an end", tree.getCondition() != null
            && !(tree.getCondition() instanceof LiteralTree) && !tree.getUpdate().isEmpty(), true);
        return super.visitForLoop(tree, none);
    }

    @Override
    public Void visitWhileLoop(WhileLoopTree tree, Void none) {
        // Each one of the program goes on by a place that the loop itself counts up to a length.
        CHECK.due(at(tree) + "rule 9: the loop has an end", tree.getCondition().toString().contains(" < length ")
            && tree.getStatement().toString().contains("++;"), true);
        return super.visitWhileLoop(tree, none);
    }

    @Override
    public Void visitUnary(UnaryTree tree, Void none) {
        CHECK.due(at(tree) + "rule 3: counting on doubles", isFraction(typeOf(tree.getExpression())), false);
        return super.visitUnary(tree, none);
    }

    @Override
    public Void visitLiteral(LiteralTree tree, Void none) {
        if (tree.getValue() instanceof String) {
            CHECK.due(at(tree) + "rule 4: signs of a text from 1 to 127", tree.getValue().toString().chars()
                .allMatch(sign -> sign >= 1 && sign <= 127), true);
        }
        return super.visitLiteral(tree, none);
    }

    @Override
    public Void visitEnhancedForLoop(EnhancedForLoopTree tree, Void none) {
        never(tree, "a loop over a row");
        return null;
    }

    @Override
    public Void visitDoWhileLoop(DoWhileLoopTree tree, Void none) {
        never(tree, "a do loop");
        return null;
    }

    @Override
    public Void visitLambdaExpression(LambdaExpressionTree tree, Void none) {
        never(tree, "a lambda");
        return null;
    }

    @Override
    public Void visitMemberReference(MemberReferenceTree tree, Void none) {
        never(tree, "a method reference");
        return null;
    }

    @Override
    public Void visitTry(TryTree tree, Void none) {
        never(tree, "a try");
        return null;
    }

    @Override
    public Void visitSynchronized(SynchronizedTree tree, Void none) {
        never(tree, "synchronized");
        return null;
    }

    @Override
    public Void visitAssert(AssertTree tree, Void none) {
        never(tree, "assert");
        return null;
    }

    @Override
    public Void visitAnnotation(AnnotationTree tree, Void none) {
        never(tree, "an annotation");
        return null;
    }
}
