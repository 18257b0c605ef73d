import com.sun.source.tree.ClassTree;
import com.sun.source.tree.CompilationUnitTree;
import com.sun.source.tree.LineMap;
import com.sun.source.tree.MemberSelectTree;
import com.sun.source.tree.MethodInvocationTree;
import com.sun.source.tree.MethodTree;
import com.sun.source.tree.NewArrayTree;
import com.sun.source.tree.NewClassTree;
import com.sun.source.tree.Tree;
import com.sun.source.tree.VariableTree;
import com.sun.source.util.JavacTask;
import com.sun.source.util.SourcePositions;
import com.sun.source.util.TreePath;
import com.sun.source.util.TreePathScanner;
import com.sun.source.util.Trees;
import java.lang.reflect.Member;
import java.lang.reflect.Method;
import java.lang.reflect.Modifier;
import java.util.ArrayList;
import java.util.Arrays;
import java.util.EnumSet;
import java.util.LinkedHashMap;
import java.util.LinkedHashSet;
import java.util.List;
import java.util.Map;
import java.util.Set;
import java.util.TreeSet;
import javax.lang.model.element.Element;
import javax.lang.model.element.Name;
import javax.tools.JavaCompiler;
import javax.tools.StandardJavaFileManager;
import javax.tools.ToolProvider;

/** The rules of ../shared/LANGUAGE.md that can be seen from the source and from the class. */
public final class LanguageTest {
    private static final String SOURCE = "src/main/java/RopedHalls.java";
    private static final Set<String> FACE = new TreeSet<>(List.of(
            "setRoom(int)", "rope(int,int,boolean)", "door(int,int,int)", "open(int,boolean)", "guard(int,int)",
            "enter(int,int)", "read()", "pass(int)", "cell(int,int)", "doorOf(int,int)", "count(int)",
            "distance(int,int)", "untilOut()", "ifRope(int,int,int)", "bestRope(int)", "waiting()", "put(long)",
            "wipe()", "fault()", "undo()", "save(int)", "restore(int)"));
    private static final Set<String> CONSTANTS = new TreeSet<>(List.of(
            "NO_SUCH", "BAD_VALUE", "BAD_TEXT", "TOO_MANY", "NOT_POSSIBLE", "NONE"));
    private static final Set<Tree.Kind> RULED_OUT = EnumSet.of(Tree.Kind.THROW, Tree.Kind.TRY, Tree.Kind.CATCH,
            Tree.Kind.SYNCHRONIZED, Tree.Kind.ASSERT, Tree.Kind.LAMBDA_EXPRESSION, Tree.Kind.MEMBER_REFERENCE,
            Tree.Kind.IMPORT, Tree.Kind.PACKAGE, Tree.Kind.ANNOTATION, Tree.Kind.STRING_LITERAL);
    private static final Set<String> LIBRARY = Set.of("Math.min", "Math.max", "Integer.bitCount");
    private static int wrong = 0;

    private static void rule(int number, boolean isKept, String what) {
        if (!isKept) {
            wrong++;
            System.out.println("rule " + number + ": " + what);
        }
    }

    public static void main(String[] args) throws Exception {
        face();
        nested();
        source();
        System.out.println(wrong == 0 ? "the rules are kept" : wrong + " rules are not kept");
        if (wrong != 0) {
            System.exit(1);
        }
    }

    private static boolean isHidden(Member member) {
        return Modifier.isPrivate(member.getModifiers()) || member.isSynthetic();
    }

    private static void face() {
        Class<?> type = RopedHalls.class;
        rule(1, Modifier.isPublic(type.getModifiers()) && Modifier.isFinal(type.getModifiers()), "public and final");
        Set<String> methods = new TreeSet<>();
        for (Method method : type.getDeclaredMethods()) {
            if (!isHidden(method)) {
                String types = Arrays.toString(Arrays.stream(method.getParameterTypes())
                        .map(Class::getName).toArray()).replaceAll("[\\[\\] ]", "");
                methods.add(method.getName() + "(" + types + ")");
                rule(1, Modifier.isPublic(method.getModifiers()) && !Modifier.isStatic(method.getModifiers())
                        && method.getReturnType() == int.class, "the face of " + method);
            }
        }
        rule(1, methods.equals(FACE), "the methods are " + methods);
        Set<String> fields = new TreeSet<>();
        for (var field : type.getDeclaredFields()) {
            if (!isHidden(field)) {
                fields.add(field.getName());
                rule(1, field.getType() == int.class && field.getModifiers()
                        == (Modifier.PUBLIC | Modifier.STATIC | Modifier.FINAL), "the constant " + field);
            }
        }
        rule(1, fields.equals(CONSTANTS), "the constants are " + fields);
        rule(1, type.getDeclaredConstructors().length == 1
                && Modifier.isPublic(type.getDeclaredConstructors()[0].getModifiers()), "one public constructor");
    }

    private static void nested() {
        Class<?>[] classes = RopedHalls.class.getDeclaredClasses();
        rule(11, classes.length < 12, "twelve classes");
        for (Class<?> type : classes) {
            rule(2, Modifier.isStatic(type.getModifiers()) && !Modifier.isPublic(type.getModifiers())
                    && type.getDeclaredClasses().length == 0, "the class " + type);
            long own = Arrays.stream(type.getDeclaredFields())
                    .filter(field -> !Modifier.isStatic(field.getModifiers())).count();
            rule(11, own <= 20, "the fields of " + type);
        }
    }

    private static void source() throws Exception {
        JavaCompiler compiler = ToolProvider.getSystemJavaCompiler();
        try (StandardJavaFileManager files = compiler.getStandardFileManager(null, null, null)) {
            JavacTask task = (JavacTask) compiler.getTask(null, files, null, null, null,
                    files.getJavaFileObjects(SOURCE));
            Calls calls = new Calls(Trees.instance(task));
            Iterable<? extends CompilationUnitTree> units = task.parse();
            task.analyze();
            for (CompilationUnitTree unit : units) {
                new Reader(unit, Trees.instance(task).getSourcePositions()).scan(unit, null);
                calls.scan(unit, null);
            }
            calls.check();
        }
    }

    /** Which method calls which one, the library's among them. */
    private static final class Calls extends TreePathScanner<Void, Void> {
        private static final int DEEPEST = 8;
        private final Trees trees;
        private final Map<Element, Set<Element>> called = new LinkedHashMap<>();
        private Element caller;

        Calls(Trees trees) {
            this.trees = trees;
        }

        @Override
        public Void visitMethod(MethodTree tree, Void none) {
            caller = trees.getElement(getCurrentPath());
            called.put(caller, new LinkedHashSet<>());
            super.visitMethod(tree, none);
            caller = null;
            return null;
        }

        private void call(TreePath path) {
            if (caller != null) {
                called.get(caller).add(trees.getElement(path));
            }
        }

        @Override
        public Void visitMethodInvocation(MethodInvocationTree tree, Void none) {
            call(getCurrentPath());
            return super.visitMethodInvocation(tree, none);
        }

        @Override
        public Void visitNewClass(NewClassTree tree, Void none) {
            call(getCurrentPath());
            return super.visitNewClass(tree, none);
        }

        void check() {
            rule(11, called.size() > FACE.size(), "the methods of the source are not seen");
            for (Element method : called.keySet()) {
                follow(method, List.of());
            }
        }

        /** Follows every chain of calls down to its end; the chain is what stands open already. */
        private void follow(Element method, List<Element> open) {
            if (open.contains(method)) {
                rule(8, false, "calls itself: " + open + ", " + method);
                return;
            }
            List<Element> chain = new ArrayList<>(open);
            chain.add(method);
            rule(11, chain.size() <= DEEPEST, "calls too deep: " + chain);
            for (Element next : called.getOrDefault(method, Set.of())) {
                follow(next, chain);
            }
        }
    }

    private static final class Reader extends TreePathScanner<Void, Void> {
        private final CompilationUnitTree unit;
        private final SourcePositions positions;
        private String method = "";
        private boolean isInMethod = false;

        Reader(CompilationUnitTree unit, SourcePositions positions) {
            this.unit = unit;
            this.positions = positions;
        }

        private long line(long position) {
            LineMap lines = unit.getLineMap();
            return lines.getLineNumber(position);
        }

        private String at(Tree tree) {
            return "line " + line(positions.getStartPosition(unit, tree)) + ": " + tree.getKind();
        }

        @Override
        public Void scan(Tree tree, Void none) {
            if (tree != null) {
                rule(6, !RULED_OUT.contains(tree.getKind()), at(tree));
            }
            return super.scan(tree, none);
        }

        @Override
        public Void visitClass(ClassTree tree, Void none) {
            rule(2, !isInMethod, "a class in a method, " + at(tree));
            return super.visitClass(tree, none);
        }

        @Override
        public Void visitMethod(MethodTree tree, Void none) {
            long length = line(positions.getEndPosition(unit, tree)) - line(positions.getStartPosition(unit, tree)) + 1;
            method = tree.getName().toString();
            rule(11, length <= 60, method + " has " + length + " lines");
            rule(11, tree.getParameters().size() <= 7, method + " has too many parameters");
            boolean isPublic = tree.getModifiers().getFlags().contains(javax.lang.model.element.Modifier.PUBLIC);
            boolean isOfFace = FACE.stream().anyMatch(one -> one.startsWith(method + "("));
            rule(1, isPublic || !isOfFace, "a private " + method);
            isInMethod = true;
            super.visitMethod(tree, none);
            isInMethod = false;
            return null;
        }

        /** The room of a run is kept small by making objects in constructors alone. */
        private void made(Tree tree) {
            rule(12, !isInMethod || method.equals("<init>"), "made in " + method + ", " + at(tree));
        }

        @Override
        public Void visitNewClass(NewClassTree tree, Void none) {
            made(tree);
            rule(2, tree.getClassBody() == null, "an anonymous class, " + at(tree));
            return super.visitNewClass(tree, none);
        }

        @Override
        public Void visitNewArray(NewArrayTree tree, Void none) {
            made(tree);
            return super.visitNewArray(tree, none);
        }

        @Override
        public Void visitVariable(VariableTree tree, Void none) {
            Set<javax.lang.model.element.Modifier> flags = tree.getModifiers().getFlags();
            rule(5, !flags.contains(javax.lang.model.element.Modifier.STATIC)
                    || flags.contains(javax.lang.model.element.Modifier.FINAL), "static and not final, " + at(tree));
            return super.visitVariable(tree, none);
        }

        @Override
        public Void visitMemberSelect(MemberSelectTree tree, Void none) {
            Name name = tree.getIdentifier();
            String whole = tree.getExpression() + "." + name;
            boolean isOfClass = Character.isUpperCase(whole.charAt(0));
            rule(4, !isOfClass || LIBRARY.contains(whole), whole + " of the library");
            return super.visitMemberSelect(tree, none);
        }
    }
}
