import com.sun.source.tree.AssertTree;
import com.sun.source.tree.BinaryTree;
import com.sun.source.tree.BlockTree;
import com.sun.source.tree.ClassTree;
import com.sun.source.tree.CompilationUnitTree;
import com.sun.source.tree.CompoundAssignmentTree;
import com.sun.source.tree.ForLoopTree;
import com.sun.source.tree.IdentifierTree;
import com.sun.source.tree.ImportTree;
import com.sun.source.tree.InstanceOfTree;
import com.sun.source.tree.LambdaExpressionTree;
import com.sun.source.tree.LiteralTree;
import com.sun.source.tree.MemberReferenceTree;
import com.sun.source.tree.MemberSelectTree;
import com.sun.source.tree.MethodInvocationTree;
import com.sun.source.tree.MethodTree;
import com.sun.source.tree.NewArrayTree;
import com.sun.source.tree.NewClassTree;
import com.sun.source.tree.SynchronizedTree;
import com.sun.source.tree.ThrowTree;
import com.sun.source.tree.Tree;
import com.sun.source.tree.TryTree;
import com.sun.source.tree.VariableTree;
import com.sun.source.tree.WhileLoopTree;
import com.sun.source.util.JavacTask;
import com.sun.source.util.SourcePositions;
import com.sun.source.util.TreePath;
import com.sun.source.util.TreePathScanner;
import com.sun.source.util.Trees;
import java.io.IOException;
import java.nio.charset.StandardCharsets;
import java.nio.file.Files;
import java.nio.file.Path;
import java.util.HashMap;
import java.util.HashSet;
import java.util.List;
import java.util.Map;
import java.util.Set;
import java.util.TreeMap;
import java.util.TreeSet;
import javax.lang.model.element.Element;
import javax.lang.model.element.ElementKind;
import javax.lang.model.element.ExecutableElement;
import javax.lang.model.element.Modifier;
import javax.lang.model.type.TypeKind;
import javax.lang.model.type.TypeMirror;
import javax.tools.JavaCompiler;
import javax.tools.StandardJavaFileManager;
import javax.tools.ToolProvider;

/** Rules of LANGUAGE.md that can be seen in the source, read with the compiler's own eyes; .ci/run starts it where the project stands. */
public final class LanguageTest {
    private static final Path SOURCE = Path.of("src/main/java/BothToBlame.java");
    private static final Set<String> IMPORTS = Set.of("java.util.Arrays", "java.util.NoSuchElementException");
    private static final Set<String> TYPES = Set.of("int", "long", "short", "byte", "char", "boolean", "java.lang.String");
    private static final Set<String> LIBRARY = Set.of("Math.max", "Math.min", "System.arraycopy", "Arrays.fill",
            "String.length", "String.charAt");
    private static final int DEEPEST = 8;
    private static final int MOST_PARAMETERS = 7;
    private static final int MOST_LINES = 60;
    private static final int MOST_CLASSES = 12;
    private static final int MOST_FIELDS = 20;

    private static int wrong = 0;

    private static void say(int rule, String what) {
        wrong++;
        System.out.println("rule " + rule + ": " + what);
    }

    /** Walks the source once, says what is against a rule, and gathers who calls whom. */
    private static final class Walk extends TreePathScanner<Void, Void> {
        final Trees trees;
        final CompilationUnitTree unit;
        final Map<String, Set<String>> calls = new TreeMap<>();
        final Set<String> face = new HashSet<>();
        final Map<String, String> privates = new HashMap<>();
        int classes = 0;
        String method = null;
        boolean throwsHere = false;
        boolean triesHere = false;
        boolean constructs = false;

        Walk(Trees trees, CompilationUnitTree unit) {
            this.trees = trees;
            this.unit = unit;
        }

        Element element() {
            return trees.getElement(getCurrentPath());
        }

        String own(Element e) {
            return e.getEnclosingElement().getSimpleName() + "." + e.getSimpleName();
        }

        boolean isOwn(Element e) {
            return trees.getPath(e) != null;
        }

        long line(long position) {
            return unit.getLineMap().getLineNumber(position);
        }

        @Override
        public Void visitImport(ImportTree t, Void v) {
            if (t.isStatic() || !IMPORTS.contains(t.getQualifiedIdentifier().toString())) {
                say(4, "import " + t.getQualifiedIdentifier());
            }
            return super.visitImport(t, v);
        }

        @Override
        public Void visitClass(ClassTree t, Void v) {
            classes++;
            Element e = element();
            Set<Modifier> m = e.getModifiers();
            boolean outer = e.getEnclosingElement().getKind() == ElementKind.PACKAGE;
            if (outer && !(m.contains(Modifier.PUBLIC) && m.contains(Modifier.FINAL))) {
                say(1, e + " is not public and final");
            }
            if (!outer && (m.contains(Modifier.PUBLIC) || m.contains(Modifier.PROTECTED) || !m.contains(Modifier.STATIC))) {
                say(1, e + " is not a private or package-visible static class");
            }
            if (!outer && method != null) {
                say(2, e + " stands in a method");
            }
            int fields = 0;
            for (Tree member : t.getMembers()) {
                if (member instanceof BlockTree block && block.isStatic()) {
                    say(5, "a static initialiser block in " + e);
                }
                if (member instanceof VariableTree field && !field.getModifiers().getFlags().contains(Modifier.STATIC)) {
                    fields++;
                }
            }
            if (fields > MOST_FIELDS) {
                say(11, e + " has " + fields + " fields");
            }
            return super.visitClass(t, v);
        }

        @Override
        public Void visitMethod(MethodTree t, Void v) {
            ExecutableElement e = (ExecutableElement) element();
            Set<Modifier> m = e.getModifiers();
            boolean outer = e.getEnclosingElement().getSimpleName().contentEquals("BothToBlame");
            constructs = e.getKind() == ElementKind.CONSTRUCTOR;
            boolean ofEnum = e.getEnclosingElement().getKind() == ElementKind.ENUM;
            if (outer && m.contains(Modifier.PUBLIC)) {
                face.add(e.getSimpleName().toString());
            } else if (!constructs && !ofEnum && !m.contains(Modifier.PRIVATE)) {
                say(1, own(e) + " is not private");
            } else if (!constructs) {
                privates.put(own(e), e.getSimpleName().toString());
            }
            if (t.getParameters().size() > MOST_PARAMETERS) {
                say(11, own(e) + " has " + t.getParameters().size() + " parameters");
            }
            SourcePositions places = trees.getSourcePositions();
            long lines = line(places.getEndPosition(unit, t)) - line(places.getStartPosition(unit, t)) + 1;
            if (lines > MOST_LINES) {
                say(11, own(e) + " has " + lines + " lines");
            }
            method = own(e);
            calls.computeIfAbsent(method, k -> new TreeSet<>());
            throwsHere = false;
            triesHere = false;
            super.visitMethod(t, v);
            if (throwsHere && triesHere) {
                say(6, method + " holds a try and a throw");
            }
            method = null;
            constructs = false;
            return null;
        }

        @Override
        public Void visitVariable(VariableTree t, Void v) {
            Element e = element();
            Set<Modifier> m = e.getModifiers();
            if (e.getKind() == ElementKind.FIELD) {
                boolean constant = m.contains(Modifier.STATIC);
                boolean shown = own(e).equals("BothToBlame.NONE") || own(e).equals("BothToBlame.NOTHING");
                if (shown != m.contains(Modifier.PUBLIC) || !shown && !m.contains(Modifier.PRIVATE)) {
                    say(1, "the field " + own(e) + " is not " + (shown ? "public" : "private"));
                }
                if (constant && !m.contains(Modifier.FINAL)) {
                    say(5, "the static field " + own(e) + " is not final");
                }
            }
            checkType(e.asType(), 0, e.getSimpleName().toString());
            return super.visitVariable(t, v);
        }

        void checkType(TypeMirror type, int dimensions, String of) {
            if (type.getKind() == TypeKind.ARRAY) {
                checkType(((javax.lang.model.type.ArrayType) type).getComponentType(), dimensions + 1, of);
                return;
            }
            boolean own = type.toString().startsWith("BothToBlame");
            if (!own && !TYPES.contains(type.toString()) || dimensions > (type.getKind().isPrimitive() ? 2 : 1)) {
                say(3, of + " is of type " + type + " with " + dimensions + " dimensions");
            }
        }

        @Override
        public Void visitMethodInvocation(MethodInvocationTree t, Void v) {
            Element e = trees.getElement(new TreePath(getCurrentPath(), t.getMethodSelect()));
            boolean ofSuper = t.getMethodSelect().toString().equals("super");
            if (isOwn(e)) {
                if (method != null) {
                    calls.get(method).add(own(e));
                }
            } else if (!ofSuper && !LIBRARY.contains(own(e)) && !t.getMethodSelect().toString().equals("Word.values")) {
                say(4, own(e) + " is called");
            }
            return super.visitMethodInvocation(t, v);
        }

        @Override
        public Void visitNewClass(NewClassTree t, Void v) {
            boolean thrown = getCurrentPath().getParentPath().getLeaf() instanceof ThrowTree;
            if (method != null && !constructs && !thrown) {
                say(12, method + " makes an object");
            }
            if (t.getClassBody() != null && method != null) {
                say(2, "a class without a name in " + method);
            }
            return super.visitNewClass(t, v);
        }

        @Override
        public Void visitNewArray(NewArrayTree t, Void v) {
            if (method != null && !constructs) {
                say(12, method + " makes an array");
            }
            return super.visitNewArray(t, v);
        }

        @Override
        public Void visitThrow(ThrowTree t, Void v) {
            throwsHere = true;
            if (!t.getExpression().toString().equals("new NoSuchElementException()") || !"BothToBlame.letter".equals(method)) {
                say(6, method + ": " + t);
            }
            return super.visitThrow(t, v);
        }

        @Override
        public Void visitTry(TryTree t, Void v) {
            triesHere = true;
            if (t.getFinallyBlock() != null || !t.getResources().isEmpty()) {
                say(6, method + " holds a finally or a try with resources");
            }
            return super.visitTry(t, v);
        }

        @Override
        public Void visitForLoop(ForLoopTree t, Void v) {
            if (t.getCondition() == null || t.getCondition() instanceof LiteralTree) {
                say(9, method + " has a loop without a bound");
            }
            return super.visitForLoop(t, v);
        }

        @Override
        public Void visitWhileLoop(WhileLoopTree t, Void v) {
            if (!t.getCondition().toString().contains("<")) {
                say(9, method + " has a while without a counter: " + t.getCondition());
            }
            return super.visitWhileLoop(t, v);
        }

        @Override
        public Void visitBinary(BinaryTree t, Void v) {
            boolean divides = t.getKind() == Tree.Kind.DIVIDE || t.getKind() == Tree.Kind.REMAINDER;
            if (t.getKind() == Tree.Kind.PLUS && trees.getTypeMirror(getCurrentPath()).toString().equals("java.lang.String")) {
                say(10, method + " joins texts by +");
            }
            if (divides && !isTested(t.getRightOperand())) {
                say(7, method + " divides by " + t.getRightOperand() + " untested");
            }
            return super.visitBinary(t, v);
        }

        /** A divisor is a constant of the class, a written number, or is looked at in the same method. */
        boolean isTested(Tree divisor) {
            String written = divisor.toString();
            if (written.matches("[1-9][0-9]*L?|[A-Z_]+")) {
                return true;
            }
            TreePath path = getCurrentPath();
            while (path != null && !(path.getLeaf() instanceof MethodTree)) {
                path = path.getParentPath();
            }
            String body = path == null ? "" : path.getLeaf().toString();
            return body.contains(written + " == 0") || body.contains(written + " > 0");
        }

        @Override
        public Void visitCompoundAssignment(CompoundAssignmentTree t, Void v) {
            if (t.getKind() == Tree.Kind.DIVIDE_ASSIGNMENT || t.getKind() == Tree.Kind.REMAINDER_ASSIGNMENT) {
                say(7, method + ": " + t);
            }
            return super.visitCompoundAssignment(t, v);
        }

        @Override
        public Void visitLambdaExpression(LambdaExpressionTree t, Void v) {
            say(2, "a lambda in " + method);
            return super.visitLambdaExpression(t, v);
        }

        @Override
        public Void visitMemberReference(MemberReferenceTree t, Void v) {
            say(2, "a method reference in " + method);
            return super.visitMemberReference(t, v);
        }

        @Override
        public Void visitSynchronized(SynchronizedTree t, Void v) {
            say(6, "synchronized in " + method);
            return super.visitSynchronized(t, v);
        }

        @Override
        public Void visitAssert(AssertTree t, Void v) {
            say(6, "assert in " + method);
            return super.visitAssert(t, v);
        }

        @Override
        public Void visitInstanceOf(InstanceOfTree t, Void v) {
            say(6, "instanceof in " + method);
            return super.visitInstanceOf(t, v);
        }

        @Override
        public Void visitMemberSelect(MemberSelectTree t, Void v) {
            if (t.getIdentifier().contentEquals("out") || t.getIdentifier().contentEquals("err")) {
                say(13, "the system's " + t.getIdentifier());
            }
            return super.visitMemberSelect(t, v);
        }

        @Override
        public Void visitIdentifier(IdentifierTree t, Void v) {
            Element e = element();
            boolean type = e != null && (e.getKind().isClass() || e.getKind().isInterface());
            if (type && !isOwn(e) && !Set.of("Math", "System", "Arrays", "String", "NoSuchElementException")
                    .contains(t.getName().toString())) {
                say(4, "the library's " + t.getName());
            }
            return super.visitIdentifier(t, v);
        }
    }

    /** How many methods stand open at once, at most, from this one on; a method that calls itself is told. */
    private static int depth(Map<String, Set<String>> calls, String from, List<String> open) {
        if (open.contains(from)) {
            say(8, "recursion: " + open + " " + from);
            return 0;
        }
        List<String> more = new java.util.ArrayList<>(open);
        more.add(from);
        int deepest = 0;
        for (String to : calls.getOrDefault(from, Set.of())) {
            deepest = Math.max(deepest, depth(calls, to, more));
        }
        return deepest + 1;
    }

    private static void checkDepths(Walk walk) {
        for (String name : walk.face) {
            int depth = depth(walk.calls, "BothToBlame." + name, List.of());
            if (depth > DEEPEST) {
                say(11, name + " goes " + depth + " calls deep");
            }
        }
    }

    private static void checkNames(Walk walk) {
        for (Map.Entry<String, String> p : walk.privates.entrySet()) {
            if (walk.face.contains(p.getValue())) {
                say(1, p.getKey() + " bears the name of a public method");
            }
        }
    }

    private static void checkSigns(String source) {
        for (int at = 0; at < source.length(); at++) {
            if (source.charAt(at) > 126) {
                say(4, "a sign beyond 126 at " + at);
            }
        }
    }

    public static void main(String[] args) throws IOException {
        checkSigns(Files.readString(SOURCE, StandardCharsets.UTF_8));
        JavaCompiler compiler = ToolProvider.getSystemJavaCompiler();
        try (StandardJavaFileManager files = compiler.getStandardFileManager(null, null, StandardCharsets.UTF_8)) {
            JavacTask task = (JavacTask) compiler.getTask(null, files, null, List.of("--release", "17", "-proc:none"), null,
                    files.getJavaFileObjects(SOURCE.toFile()));
            CompilationUnitTree unit = task.parse().iterator().next();
            task.analyze();
            if (unit.getPackageName() != null) {
                say(1, "a package line");
            }
            Walk walk = new Walk(Trees.instance(task), unit);
            walk.scan(unit, null);
            if (walk.classes > MOST_CLASSES) {
                say(11, "there are " + walk.classes + " classes");
            }
            checkNames(walk);
            checkDepths(walk);
        }
        System.out.println(wrong == 0 ? "the rules that can be seen are kept" : wrong + " rules are not kept");
        if (wrong != 0) {
            System.exit(1);
        }
    }
}
