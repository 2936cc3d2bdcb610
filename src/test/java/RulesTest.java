import com.sun.source.tree.*;
import com.sun.source.util.JavacTask;
import com.sun.source.util.TreePath;
import com.sun.source.util.TreePathScanner;
import com.sun.source.util.Trees;
import java.io.IOException;
import java.lang.reflect.Constructor;
import java.lang.reflect.Field;
import java.lang.reflect.Method;
import java.lang.reflect.Modifier;
import java.nio.file.Path;
import java.util.ArrayDeque;
import java.util.Deque;
import java.util.HashMap;
import java.util.HashSet;
import java.util.LinkedHashMap;
import java.util.LinkedHashSet;
import java.util.List;
import java.util.Map;
import java.util.Set;
import java.util.TreeSet;
import javax.lang.model.element.Element;
import javax.lang.model.element.ElementKind;
import javax.lang.model.element.TypeElement;
import javax.lang.model.type.ArrayType;
import javax.lang.model.type.TypeKind;
import javax.lang.model.type.TypeMirror;
import javax.tools.JavaCompiler;
import javax.tools.StandardJavaFileManager;
import javax.tools.ToolProvider;

/** Holds the program's source against the rules of LANGUAGE.md that can be read off it. */
public final class RulesTest {
    private static final Checks checks = new Checks();

    private static final String FACE = "int home(int,int);int month(int,int,int);int lamp(int,int,int);int lend(int,int);"
        + "int move(int,int);long of(int,int);int pass(int);int kind(int,int);int days(int,int,int,int);int feed(int,int);"
        + "int text(int);int force(int,int,int,int);int why(int,int,int);int code(int,int,int);int sold(int,int);"
        + "int take(int,int);int agree(int);long drift(int,int);int paid(int,int);int roll(int,int);int can(int,int,int);"
        + "int best(int,int,int);int broke(int,int,int);int cause();int sell(int,int,int,int);int whose(int,int);"
        + "int tried(int,int);int hear(int,int,int);int known(int,int);int act(int,int,int,int);int trace(int);"
        + "int taken(int,int,int);long list(int,int,int);int count(int);int tape(int,int,int);int item(int,int,long);"
        + "long read(int,int);int shift(int,int,int,int,int);";

    public static void main(String[] args) throws IOException {
        face();
        Path source = Path.of(args.length > 0 ? args[0] : ".", "src", "main", "java", "SunLamps.java");
        JavaCompiler compiler = ToolProvider.getSystemJavaCompiler();
        try (StandardJavaFileManager files = compiler.getStandardFileManager(null, null, null)) {
            JavacTask task = (JavacTask) compiler.getTask(null, files, null, List.of("-proc:none"), null,
                files.getJavaFileObjects(source));
            CompilationUnitTree unit = task.parse().iterator().next();
            task.analyze();
            checks.holds("no package line", unit.getPackageName() == null);
            checks.holds("no imports but java.util's lists and Arrays", areFewImports(unit));
            Source scanner = new Source(Trees.instance(task), unit);
            scanner.scan(unit, null);
            checks.holds("some twelve classes at most: " + scanner.classes, scanner.classes <= 12);
            depths(scanner.calls);
        }
        checks.end("RulesTest");
    }

    // ---- the face (rule 1)

    private static String told(Class<?> type, String name, Class<?>[] parameters) {
        StringBuilder text = new StringBuilder(type.getName()).append(' ').append(name).append('(');
        for (int i = 0; i < parameters.length; i++) text.append(i == 0 ? "" : ",").append(parameters[i].getName());
        return text.append(")").toString();
    }

    private static void face() {
        Class<?> program = SunLamps.class;
        checks.holds("public and final", Modifier.isPublic(program.getModifiers()) && Modifier.isFinal(program.getModifiers()));
        Set<String> want = new TreeSet<>(List.of(FACE.split(";"))), got = new TreeSet<>(), names = new HashSet<>();
        for (Method method : program.getDeclaredMethods()) {
            if (Modifier.isPrivate(method.getModifiers())) continue;
            got.add(told(method.getReturnType(), method.getName(), method.getParameterTypes()));
            names.add(method.getName());
            checks.holds(method + " is public and no static one", method.getModifiers() == Modifier.PUBLIC);
        }
        checks.holds("the face's methods " + got, got.equals(want));
        for (Method method : program.getDeclaredMethods()) {
            boolean isPrivate = Modifier.isPrivate(method.getModifiers());
            checks.holds("no public name for " + method, !isPrivate || !names.contains(method.getName()));
        }
        for (Class<?> inside : program.getDeclaredClasses()) {
            for (Method method : inside.getDeclaredMethods()) {
                checks.holds("no public name for " + method, !names.contains(method.getName()));
            }
        }
        Constructor<?>[] constructors = program.getDeclaredConstructors();
        checks.holds("one public constructor", constructors.length == 1 && constructors[0].getModifiers() == Modifier.PUBLIC
            && constructors[0].getParameterCount() == 0);
        Set<String> constants = new TreeSet<>();
        for (Field field : program.getDeclaredFields()) {
            if (!Modifier.isPrivate(field.getModifiers())) constants.add(field.getType() + " " + field.getName());
        }
        checks.holds("the constants " + constants,
            constants.equals(new TreeSet<>(List.of("int NONE", "int BAD", "int STATE", "int FULL", "long NO"))));
        checks.holds("no class above", program.getSuperclass() == Object.class && program.getInterfaces().length == 0);
    }

    private static boolean areFewImports(CompilationUnitTree unit) {
        Set<String> allowed = Set.of("java.util.ArrayList", "java.util.List", "java.util.Arrays", "java.util.Iterator");
        for (ImportTree line : unit.getImports()) {
            if (!allowed.contains(line.getQualifiedIdentifier().toString())) return false;
        }
        return true;
    }

    // ---- how deep calls go (rules 8 and 11)

    /** All methods that a method calls, also by way of others. */
    private static Set<Element> reached(Map<Element, Set<Element>> calls, Element from) {
        Set<Element> found = new LinkedHashSet<>();
        Deque<Element> open = new ArrayDeque<>(calls.getOrDefault(from, Set.of()));
        while (!open.isEmpty()) {
            Element next = open.pop();
            if (found.add(next)) open.addAll(calls.getOrDefault(next, Set.of()));
        }
        return found;
    }

    /** The longest chain of calls from a method on, itself counted; calls of one recursion count once together. */
    private static int depth(Map<Element, Set<Element>> calls, Element from, Map<Element, Integer> known) {
        if (known.containsKey(from)) return known.get(from);
        Set<Element> ring = new LinkedHashSet<>(Set.of(from));
        for (Element to : reached(calls, from)) if (reached(calls, to).contains(from)) ring.add(to);
        int deepest = 0;
        for (Element member : ring) {
            for (Element to : calls.getOrDefault(member, Set.of())) {
                if (!ring.contains(to)) deepest = Math.max(deepest, depth(calls, to, known));
            }
        }
        for (Element member : ring) known.put(member, deepest + 1);
        return deepest + 1;
    }

    private static void depths(Map<Element, Set<Element>> calls) {
        Map<Element, Integer> known = new HashMap<>();
        for (Element method : calls.keySet()) {
            int depth = depth(calls, method, known);
            checks.holds("calls go eight deep at most from " + method + ": " + depth, depth <= 8);
        }
        checks.holds("calls are seen", known.size() > 38);
    }

    // ---- the source

    private static final class Source extends TreePathScanner<Void, Void> {
        private static final Set<Tree.Kind> FORBIDDEN = Set.of(Tree.Kind.THROW, Tree.Kind.TRY, Tree.Kind.CATCH,
            Tree.Kind.SYNCHRONIZED, Tree.Kind.ASSERT, Tree.Kind.LAMBDA_EXPRESSION, Tree.Kind.MEMBER_REFERENCE,
            Tree.Kind.SWITCH_EXPRESSION);
        private static final Set<String> OWNERS = Set.of("java.lang.String", "java.lang.StringBuilder", "java.lang.Integer",
            "java.lang.Long", "java.lang.Math", "java.util.ArrayList", "java.util.List");
        private static final Set<String> ALONE = Set.of("java.lang.System.arraycopy", "java.util.Arrays.copyOf",
            "java.util.Arrays.copyOfRange", "java.util.Arrays.fill", "java.lang.Object.<init>");
        private static final Set<String> STRING_CALLS = Set.of("length", "charAt", "isEmpty", "equals", "indexOf",
            "substring", "toCharArray", "<init>");
        private static final Set<String> FINAL_ARRAYS = Set.of("int[]", "long[]", "char[]", "byte[]");
        private static final Set<String> FINAL_TYPES = Set.of("int", "long", "boolean", "char", "java.lang.String");

        private final Trees trees;
        private final CompilationUnitTree unit;
        /** Which of the program's methods each of them calls. */
        final Map<Element, Set<Element>> calls = new LinkedHashMap<>();
        private Element method;
        int classes = 0;

        Source(Trees trees, CompilationUnitTree unit) {
            this.trees = trees;
            this.unit = unit;
        }

        private String at(Tree tree) {
            long place = trees.getSourcePositions().getStartPosition(unit, tree);
            return "line " + unit.getLineMap().getLineNumber(place);
        }

        private long lines(Tree tree) {
            LineMap map = unit.getLineMap();
            return map.getLineNumber(trees.getSourcePositions().getEndPosition(unit, tree))
                - map.getLineNumber(trees.getSourcePositions().getStartPosition(unit, tree)) + 1;
        }

        @Override
        public Void scan(Tree tree, Void none) {
            if (tree != null) checks.holds(tree.getKind() + " is none of the language, " + at(tree), !FORBIDDEN.contains(tree.getKind()));
            return super.scan(tree, none);
        }

        @Override
        public Void visitClass(ClassTree tree, Void none) {
            classes++;
            boolean isOuter = getCurrentPath().getParentPath().getLeaf() == unit;
            Set<javax.lang.model.element.Modifier> flags = tree.getModifiers().getFlags();
            if (!isOuter) {
                checks.holds("static and private or package-visible: " + tree.getSimpleName(),
                    flags.contains(javax.lang.model.element.Modifier.STATIC)
                        && !flags.contains(javax.lang.model.element.Modifier.PUBLIC)
                        && !flags.contains(javax.lang.model.element.Modifier.PROTECTED));
            }
            int fields = 0;
            for (Tree member : tree.getMembers()) {
                checks.holds("no initialiser block, " + at(member), member.getKind() != Tree.Kind.BLOCK);
                boolean isField = member instanceof VariableTree v
                    && !v.getModifiers().getFlags().contains(javax.lang.model.element.Modifier.STATIC);
                if (isField) fields++;
            }
            checks.holds("some twenty fields at most in " + tree.getSimpleName() + ": " + fields, fields <= 20);
            return super.visitClass(tree, none);
        }

        @Override
        public Void visitMethod(MethodTree tree, Void none) {
            checks.holds(tree.getName() + " takes seven parameters at most", tree.getParameters().size() <= 7);
            boolean isMade = trees.getSourcePositions().getEndPosition(unit, tree) < 0;
            checks.holds(tree.getName() + " has some sixty lines at most", isMade || lines(tree) <= 60);
            checks.holds(tree.getName() + " throws nothing", tree.getThrows().isEmpty());
            method = trees.getElement(getCurrentPath());
            calls.putIfAbsent(method, new LinkedHashSet<>());
            return super.visitMethod(tree, none);
        }

        @Override
        public Void visitVariable(VariableTree tree, Void none) {
            Element element = trees.getElement(getCurrentPath());
            TypeMirror type = element.asType();
            checks.holds("a type of the language: " + type + ", " + at(tree), isOfLanguage(type));
            boolean isStatic = element.getModifiers().contains(javax.lang.model.element.Modifier.STATIC);
            if (element.getKind() == ElementKind.FIELD && isStatic) {
                checks.holds("final, " + at(tree), element.getModifiers().contains(javax.lang.model.element.Modifier.FINAL));
                boolean isRow = tree.getInitializer() instanceof NewArrayTree row && row.getInitializers() != null;
                checks.holds("a constant, " + at(tree),
                    FINAL_TYPES.contains(type.toString()) || FINAL_ARRAYS.contains(type.toString()) && isRow);
            }
            return super.visitVariable(tree, none);
        }

        private boolean isOfLanguage(TypeMirror type) {
            if (type.getKind().isPrimitive()) return true;
            if (type instanceof ArrayType row) {
                TypeMirror part = row.getComponentType();
                if (part.getKind() != TypeKind.ARRAY) return part.getKind().isPrimitive() || isOwn(part);
                return ((ArrayType) part).getComponentType().getKind().isPrimitive();
            }
            String name = type.toString();
            return isOwn(type) || name.startsWith("java.util.ArrayList<") || name.startsWith("java.util.List<")
                || Set.of("java.lang.String", "java.lang.StringBuilder", "java.lang.Integer").contains(name);
        }

        private static boolean isOwn(TypeMirror type) {
            return type.toString().equals("SunLamps") || type.toString().startsWith("SunLamps.");
        }

        @Override
        public Void visitMethodInvocation(MethodInvocationTree tree, Void none) {
            checkCall(trees.getElement(getCurrentPath()), tree);
            return super.visitMethodInvocation(tree, none);
        }

        @Override
        public Void visitNewClass(NewClassTree tree, Void none) {
            checks.holds("no anonymous class, " + at(tree), tree.getClassBody() == null);
            checkCall(trees.getElement(getCurrentPath()), tree);
            return super.visitNewClass(tree, none);
        }

        private void checkCall(Element called, Tree tree) {
            String owner = ((TypeElement) called.getEnclosingElement()).getQualifiedName().toString();
            String name = called.getSimpleName().toString();
            boolean isOwn = owner.equals("SunLamps") || owner.startsWith("SunLamps.");
            if (isOwn && method != null) calls.computeIfAbsent(method, m -> new LinkedHashSet<>()).add(called);
            boolean isGood = isOwn || OWNERS.contains(owner) || ALONE.contains(owner + "." + name);
            checks.holds("a call of the language: " + owner + "." + name + ", " + at(tree), isGood && !name.endsWith("Exact"));
            if (owner.equals("java.lang.String")) {
                checks.holds("a call of String: " + name + ", " + at(tree), STRING_CALLS.contains(name));
            }
        }

        @Override
        public Void visitBinary(BinaryTree tree, Void none) {
            TypeMirror left = typeOf(tree.getLeftOperand()), right = typeOf(tree.getRightOperand());
            boolean isText = (left + "").equals("java.lang.String") || (right + "").equals("java.lang.String");
            checks.holds("no text is joined or compared by a sign, " + at(tree), !isText);
            boolean isDivision = tree.getKind() == Tree.Kind.DIVIDE || tree.getKind() == Tree.Kind.REMAINDER;
            checks.holds("divided by a constant alone, " + at(tree), !isDivision || isConstant(tree.getRightOperand()));
            return super.visitBinary(tree, none);
        }

        private TypeMirror typeOf(Tree tree) {
            return trees.getTypeMirror(new TreePath(getCurrentPath(), tree));
        }

        /** A literal, a constant, or a product of these. */
        private boolean isConstant(Tree tree) {
            if (tree instanceof LiteralTree) return true;
            if (tree instanceof ParenthesizedTree inner) return isConstant(inner.getExpression());
            if (tree instanceof BinaryTree both) return isConstant(both.getLeftOperand()) && isConstant(both.getRightOperand());
            Element element = trees.getElement(new TreePath(getCurrentPath(), tree));
            return element instanceof javax.lang.model.element.VariableElement v && v.getConstantValue() != null;
        }

        @Override
        public Void visitNewArray(NewArrayTree tree, Void none) {
            for (ExpressionTree size : tree.getDimensions()) {
                checks.holds("a row's length is a constant, " + at(tree), isConstant(size));
            }
            return super.visitNewArray(tree, none);
        }

        @Override
        public Void visitLiteral(LiteralTree tree, Void none) {
            if (tree.getValue() instanceof String text) {
                checks.holds("signs 1 to 127 alone, " + at(tree), text.chars().allMatch(sign -> sign >= 1 && sign <= 127));
            }
            return super.visitLiteral(tree, none);
        }
    }
}
