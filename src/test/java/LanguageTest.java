import com.sun.source.tree.BinaryTree;
import com.sun.source.tree.CompilationUnitTree;
import com.sun.source.tree.CompoundAssignmentTree;
import com.sun.source.tree.ExpressionTree;
import com.sun.source.tree.IdentifierTree;
import com.sun.source.tree.LiteralTree;
import com.sun.source.tree.MemberSelectTree;
import com.sun.source.tree.MethodInvocationTree;
import com.sun.source.tree.MethodTree;
import com.sun.source.tree.NewClassTree;
import com.sun.source.tree.ThrowTree;
import com.sun.source.tree.Tree;
import com.sun.source.tree.VariableTree;
import com.sun.source.util.JavacTask;
import com.sun.source.util.TreePath;
import com.sun.source.util.TreePathScanner;
import com.sun.source.util.Trees;
import java.nio.file.Path;
import java.util.EnumSet;
import java.util.HashMap;
import java.util.HashSet;
import java.util.List;
import java.util.Map;
import java.util.Set;
import java.util.TreeMap;
import java.util.TreeSet;
import javax.lang.model.element.Element;
import javax.lang.model.element.ElementKind;
import javax.lang.model.element.ExecutableElement;
import javax.lang.model.element.Modifier;
import javax.lang.model.type.TypeMirror;
import javax.tools.JavaCompiler;
import javax.tools.StandardJavaFileManager;
import javax.tools.ToolProvider;

/** What the compiler knows of the class, held against the rules of LANGUAGE.md that can be counted or listed. */
public final class LanguageTest {
    private static final Checks CHECKS = new Checks();
    private static final int DEEPEST = 8;
    private static final int MOST_PARAMETERS = 7;
    private static final int MOST_FIELDS = 20;
    private static final int MOST_CLASSES = 12;

    /** Rule 4, of what the class could want of it; a constructor is told as "new". */
    private static final Set<String> LIBRARY = Set.of("String.length", "String.charAt", "String.isEmpty", "String.equals",
        "String.indexOf", "String.substring", "String.toCharArray", "Arrays.fill", "Arrays.copyOf", "Arrays.copyOfRange",
        "System.arraycopy", "Math.max", "Math.min", "Math.abs", "Math.floorDiv", "Math.floorMod", "Integer.compare",
        "Integer.max", "Integer.min", "Integer.bitCount", "Long.compare", "Long.max", "Long.min", "Long.bitCount",
        "Object.new");
    /** Rule 6. */
    private static final Set<String> EXCEPTIONS = Set.of("IllegalStateException", "IllegalArgumentException",
        "IndexOutOfBoundsException", "ArithmeticException", "UnsupportedOperationException", "NoSuchElementException",
        "RuntimeException");
    /** Rules 2, 5, 6 and 9: none of these is needed here, though some would be allowed at some places. */
    private static final Set<Tree.Kind> RULED_OUT = EnumSet.of(Tree.Kind.LAMBDA_EXPRESSION, Tree.Kind.MEMBER_REFERENCE,
        Tree.Kind.TRY, Tree.Kind.CATCH, Tree.Kind.SYNCHRONIZED, Tree.Kind.ASSERT, Tree.Kind.TYPE_CAST, Tree.Kind.INSTANCE_OF,
        Tree.Kind.SWITCH_EXPRESSION, Tree.Kind.DOUBLE_LITERAL, Tree.Kind.FLOAT_LITERAL);
    /** A number of a wider kind may be cut to a byte. */
    private static final Set<Tree.Kind> ALLOWED_CASTS = EnumSet.of(Tree.Kind.PRIMITIVE_TYPE);

    private static final Map<String, Set<String>> CALLS = new TreeMap<>();
    private static final Map<String, Integer> DEPTHS = new HashMap<>();

    public static void main(String[] args) throws Exception {
        JavaCompiler compiler = ToolProvider.getSystemJavaCompiler();
        StandardJavaFileManager files = compiler.getStandardFileManager(null, null, null);
        JavacTask task = (JavacTask) compiler.getTask(null, files, null, List.of("-proc:none"), null,
            files.getJavaFileObjects(Path.of("src/main/java/ReportedCases.java")));
        Iterable<? extends CompilationUnitTree> units = task.parse();
        task.analyze();
        int classes = 0;
        for (CompilationUnitTree unit : units) {
            CHECKS.due("a package line", unit.getPackageName() != null, false);
            Reader reader = new Reader(Trees.instance(task));
            reader.scan(unit, null);
            classes += reader.fields.size();
            reader.fields.forEach((name, n) -> CHECKS.due("too many fields of " + name, n > MOST_FIELDS, false));
        }
        CHECKS.due("no class was read", classes == 0, false);
        CHECKS.due("too many classes", classes > MOST_CLASSES, false);
        depths();
        CHECKS.finish();
    }

    /** Rule 11: a call of the face is the first, and what the library is asked counts as a call too. */
    private static void depths() {
        for (String method : CALLS.keySet()) {
            int depth = depthOf(method, new HashSet<>());
            CHECKS.due(method + " goes " + depth + " deep, beyond " + DEEPEST, depth > DEEPEST, false);
        }
    }

    private static int depthOf(String method, Set<String> open) {
        Integer known = DEPTHS.get(method);
        if (known != null) {
            return known;
        }
        if (!open.add(method)) {
            CHECKS.due("recursion of " + method, true, false);
            return 0;
        }
        int deepest = 0;
        for (String called : CALLS.getOrDefault(method, Set.of())) {
            deepest = Math.max(deepest, depthOf(called, open));
        }
        open.remove(method);
        DEPTHS.put(method, deepest + 1);
        return deepest + 1;
    }

    private static final class Reader extends TreePathScanner<Void, Void> {
        private final Trees trees;
        private final Map<String, Integer> fields = new TreeMap<>();
        private String method = "";

        Reader(Trees trees) {
            this.trees = trees;
        }

        @Override
        public Void scan(Tree tree, Void nothing) {
            if (tree != null && RULED_OUT.contains(tree.getKind())) {
                boolean isNumberCast = tree instanceof com.sun.source.tree.TypeCastTree cast
                    && ALLOWED_CASTS.contains(cast.getType().getKind());
                CHECKS.due("the class has " + tree.getKind() + ": " + tree, isNumberCast, true);
            }
            return super.scan(tree, nothing);
        }

        @Override
        public Void visitClass(com.sun.source.tree.ClassTree tree, Void nothing) {
            Element element = elementHere();
            int count = 0;
            for (Element member : element.getEnclosedElements()) {
                boolean isStatic = member.getModifiers().contains(Modifier.STATIC);
                if (member.getKind() == ElementKind.FIELD && !isStatic) {
                    count++;
                }
                if (member.getKind() == ElementKind.FIELD && isStatic) {
                    staticField(member);
                }
                CHECKS.due("a static block in " + element, member.getKind() == ElementKind.STATIC_INIT, false);
            }
            fields.put(element.getSimpleName().toString(), count);
            return super.visitClass(tree, nothing);
        }

        /** Rule 5. */
        private void staticField(Element field) {
            CHECKS.due(field + " is static and not final", field.getModifiers().contains(Modifier.FINAL), true);
            CHECKS.due("the kind of the static " + field, Set.of("int", "long", "boolean", "char", "java.lang.String", "int[]",
                "long[]", "char[]", "byte[]").contains(field.asType().toString()), true);
        }

        @Override
        public Void visitMethod(MethodTree tree, Void nothing) {
            ExecutableElement element = (ExecutableElement) elementHere();
            CHECKS.due("too many parameters of " + element, element.getParameters().size() > MOST_PARAMETERS, false);
            method = nameOf(element);
            CALLS.computeIfAbsent(method, k -> new TreeSet<>());
            super.visitMethod(tree, nothing);
            method = "";
            return null;
        }

        @Override
        public Void visitVariable(VariableTree tree, Void nothing) {
            TypeMirror type = elementHere().asType();
            String kind = type.toString();
            boolean ofNumbers = kind.matches("(int|long|byte|char|boolean)(\\[\\])?");
            CHECKS.due("the kind of " + tree, ofNumbers || kind.equals("java.lang.String") || isOfTheClass(kind), true);
            return super.visitVariable(tree, nothing);
        }

        @Override
        public Void visitThrow(ThrowTree tree, Void nothing) {
            ExpressionTree thrown = tree.getExpression();
            boolean isFit = thrown instanceof NewClassTree made && EXCEPTIONS.contains(made.getIdentifier().toString())
                && made.getArguments().stream().allMatch(a -> a instanceof LiteralTree);
            CHECKS.due("what is thrown: " + tree, isFit, true);
            CHECKS.due("a throw in a constructor", method.endsWith(".new"), false);
            return super.visitThrow(tree, nothing);
        }

        @Override
        public Void visitMethodInvocation(MethodInvocationTree tree, Void nothing) {
            called(elementAt(tree));
            return super.visitMethodInvocation(tree, nothing);
        }

        @Override
        public Void visitNewClass(NewClassTree tree, Void nothing) {
            boolean isException = EXCEPTIONS.contains(tree.getIdentifier().toString());
            if (!isException) {
                called(elementHere());
            }
            return super.visitNewClass(tree, nothing);
        }

        @Override
        public Void visitMemberSelect(MemberSelectTree tree, Void nothing) {
            libraryField(elementHere());
            return super.visitMemberSelect(tree, nothing);
        }

        @Override
        public Void visitIdentifier(IdentifierTree tree, Void nothing) {
            libraryField(elementHere());
            return super.visitIdentifier(tree, nothing);
        }

        /** Rule 10: texts are not joined by +. */
        @Override
        public Void visitBinary(BinaryTree tree, Void nothing) {
            CHECKS.due("a text is joined: " + tree, tree.getKind() == Tree.Kind.PLUS && isText(elementTypeHere()), false);
            return super.visitBinary(tree, nothing);
        }

        @Override
        public Void visitCompoundAssignment(CompoundAssignmentTree tree, Void nothing) {
            CHECKS.due("a text is joined: " + tree, isText(elementTypeHere()), false);
            return super.visitCompoundAssignment(tree, nothing);
        }

        /** A constant of the library stands nowhere in rule 4; the length of an array is no library's. */
        private void libraryField(Element element) {
            if (element != null && element.getKind() == ElementKind.FIELD && !element.toString().equals("length")) {
                String owner = element.getEnclosingElement().toString();
                CHECKS.due("a constant of the library: " + owner + "." + element, isOfTheClass(owner), true);
            }
        }

        private void called(Element element) {
            String name = nameOf(element);
            if (!method.isEmpty()) {
                CALLS.get(method).add(name);
            }
            if (!isOfTheClass(element.getEnclosingElement().toString())) {
                CHECKS.due("a call of the library: " + name, LIBRARY.contains(name), true);
            }
        }

        private Element elementHere() {
            return trees.getElement(getCurrentPath());
        }

        private Element elementAt(MethodInvocationTree tree) {
            return trees.getElement(new TreePath(getCurrentPath(), tree.getMethodSelect()));
        }

        private TypeMirror elementTypeHere() {
            return trees.getTypeMirror(getCurrentPath());
        }

        private static boolean isText(TypeMirror type) {
            return type != null && type.toString().equals("java.lang.String");
        }

        private static boolean isOfTheClass(String type) {
            return type.equals("ReportedCases") || type.startsWith("ReportedCases.");
        }

        private static String nameOf(Element element) {
            String name = element.getKind() == ElementKind.CONSTRUCTOR ? "new" : element.getSimpleName().toString();
            return element.getEnclosingElement().getSimpleName() + "." + name;
        }
    }
}
