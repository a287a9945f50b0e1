import com.sun.source.tree.BinaryTree;
import com.sun.source.tree.ClassTree;
import com.sun.source.tree.CompilationUnitTree;
import com.sun.source.tree.IdentifierTree;
import com.sun.source.tree.LambdaExpressionTree;
import com.sun.source.tree.LiteralTree;
import com.sun.source.tree.MemberReferenceTree;
import com.sun.source.tree.MemberSelectTree;
import com.sun.source.tree.MethodInvocationTree;
import com.sun.source.tree.MethodTree;
import com.sun.source.tree.NewArrayTree;
import com.sun.source.tree.NewClassTree;
import com.sun.source.tree.ThrowTree;
import com.sun.source.tree.Tree;
import com.sun.source.tree.TryTree;
import com.sun.source.tree.VariableTree;
import com.sun.source.tree.WhileLoopTree;
import com.sun.source.util.JavacTask;
import com.sun.source.util.TreeScanner;
import java.io.File;
import java.lang.reflect.Constructor;
import java.lang.reflect.Field;
import java.lang.reflect.Method;
import java.lang.reflect.Modifier;
import java.util.HashMap;
import java.util.HashSet;
import java.util.List;
import java.util.Map;
import java.util.Set;
import java.util.TreeSet;
import javax.tools.JavaCompiler;
import javax.tools.StandardJavaFileManager;
import javax.tools.ToolProvider;

/** The face of the document, and those rules of LANGUAGE.md that can be seen in the source. */
public final class LanguageTest {
    private static final Checks CHECKS = new Checks();
    private static final File SOURCE = new File("src/main/java/FencedRows.java");

    private static final List<String> FACE = List.of(
            "append(int) IllegalArgumentException IllegalStateException",
            "clearText()",
            "errorPosition()",
            "load() IllegalStateException",
            "about(int) IllegalArgumentException",
            "rowOf(int,int) IndexOutOfBoundsException IllegalArgumentException",
            "blockOf(int,int) IndexOutOfBoundsException IllegalArgumentException IllegalStateException",
            "weigh(int,int) IndexOutOfBoundsException IllegalArgumentException",
            "away(int,boolean) IndexOutOfBoundsException",
            "fence(int,boolean) IndexOutOfBoundsException IllegalStateException",
            "spread(int) IllegalArgumentException",
            "lie(int,int) IndexOutOfBoundsException IllegalArgumentException",
            "tell()",
            "seek(int) IllegalArgumentException IllegalStateException",
            "trust(int) IllegalArgumentException",
            "undo() IllegalStateException",
            "ifSought(int,int) IllegalArgumentException IllegalStateException",
            "bestWay()",
            "looks(int,int,int) IndexOutOfBoundsException IllegalArgumentException",
            "leastLooks(int) IndexOutOfBoundsException",
            "balanced(int) IllegalArgumentException",
            "canBe(int) IndexOutOfBoundsException IllegalStateException",
            "farthest()",
            "runScript(int,long) IllegalArgumentException",
            "simulate(long,int) IllegalArgumentException",
            "save(int) IndexOutOfBoundsException",
            "restore(int) IndexOutOfBoundsException IllegalStateException");

    public static void main(String[] args) throws Exception {
        face();
        CompilationUnitTree unit = parsed();
        CHECKS.is("rule 1: classes beside the public one", unit.getTypeDecls().size(), 1);
        CHECKS.yes("no package", unit.getPackageName() == null);
        CHECKS.is("rule 4: imports", unit.getImports().size(), 0);
        Rules rules = new Rules();
        rules.scan(unit, null);
        CHECKS.yes("rule 11: some twelve classes", rules.classes <= 12);
        rules.depths();
        CHECKS.end();
    }

    private static CompilationUnitTree parsed() throws Exception {
        JavaCompiler compiler = ToolProvider.getSystemJavaCompiler();
        StandardJavaFileManager files = compiler.getStandardFileManager(null, null, null);
        JavacTask task = (JavacTask) compiler.getTask(null, files, null, null, null, files.getJavaFileObjects(SOURCE));
        return task.parse().iterator().next();
    }

    private static void face() {
        Class<?> c = FencedRows.class;
        CHECKS.is("rule 1: public and final", c.getModifiers(), Modifier.PUBLIC | Modifier.FINAL);
        Set<String> seen = new TreeSet<>();
        for (Method m : c.getDeclaredMethods()) {
            if (Modifier.isPrivate(m.getModifiers()) || m.isSynthetic()) {
                continue;
            }
            CHECKS.is("rule 1: just public, " + m, m.getModifiers(), Modifier.PUBLIC);
            CHECKS.same("rule 1: its type", m.getReturnType(), int.class);
            StringBuilder line = new StringBuilder(m.getName()).append('(');
            for (Class<?> p : m.getParameterTypes()) {
                line.append(line.charAt(line.length() - 1) == '(' ? "" : ",").append(p.getSimpleName());
            }
            line.append(')');
            for (Class<?> e : m.getExceptionTypes()) {
                line.append(' ').append(e.getSimpleName());
            }
            seen.add(line.toString());
        }
        CHECKS.same("rule 1: the methods", seen, new TreeSet<>(FACE));
        for (Field f : c.getDeclaredFields()) {
            boolean none = f.getName().equals("NONE");
            CHECKS.yes("rule 1: hidden, " + f, none == !Modifier.isPrivate(f.getModifiers()));
        }
        Constructor<?>[] made = c.getDeclaredConstructors();
        CHECKS.is("rule 1: one constructor", made.length, 1);
        CHECKS.is("rule 1: it is public", made[0].getModifiers(), Modifier.PUBLIC);
        for (Class<?> inside : c.getDeclaredClasses()) {
            int open = inside.getModifiers() & (Modifier.PUBLIC | Modifier.PROTECTED);
            CHECKS.is("rule 1: not open, " + inside, open, 0);
            CHECKS.yes("rule 1: static, " + inside, Modifier.isStatic(inside.getModifiers()));
        }
    }

    /** Looks at each place of the source. */
    private static final class Rules extends TreeScanner<Void, Void> {
        private static final Set<String> LIBRARY = Set.of("Math.abs", "Math.min", "Math.max", "Long.bitCount",
                "System.arraycopy");
        private static final Set<String> EXCEPTIONS = Set.of("IllegalStateException", "IllegalArgumentException",
                "IndexOutOfBoundsException");

        private final Map<String, Set<String>> calls = new HashMap<>();
        private int classes = 0;
        private String className = "";
        private String method = "";
        private boolean atConstructor = false;

        @Override
        public Void visitClass(ClassTree c, Void v) {
            classes++;
            long fields = c.getMembers().stream().filter(m -> m instanceof VariableTree)
                    .filter(m -> !isStatic((VariableTree) m)).count();
            CHECKS.yes("rule 11: fields of " + c.getSimpleName(), fields <= 20);
            String outer = className;
            className = c.getSimpleName().toString();
            super.visitClass(c, v);
            className = outer;
            return null;
        }

        private static boolean isStatic(VariableTree t) {
            return t.getModifiers().getFlags().contains(javax.lang.model.element.Modifier.STATIC);
        }

        @Override
        public Void visitVariable(VariableTree t, Void v) {
            if (isStatic(t)) {
                CHECKS.yes("rule 5: final, " + t.getName(),
                        t.getModifiers().getFlags().contains(javax.lang.model.element.Modifier.FINAL));
            }
            String type = String.valueOf(t.getType());
            CHECKS.yes("rule 3: no List of " + type, !type.contains("<"));
            return super.visitVariable(t, v);
        }

        @Override
        public Void visitMethod(MethodTree m, Void v) {
            method = m.getName().toString();
            atConstructor = method.equals("<init>");
            CHECKS.yes("rule 11: parameters of " + method, m.getParameters().size() <= 7);
            CHECKS.yes("rule 11: length of " + method, m.toString().split("\n").length <= 60);
            boolean ofFace = FACE.stream().anyMatch(f -> f.startsWith(method + "("));
            if (ofFace) {
                CHECKS.same("rule 1: the name of a public method, " + method, className, "FencedRows");
            }
            calls.computeIfAbsent(method, k -> new HashSet<>());
            super.visitMethod(m, v);
            method = "";
            atConstructor = false;
            return null;
        }

        @Override
        public Void visitMethodInvocation(MethodInvocationTree t, Void v) {
            Tree named = t.getMethodSelect();
            String name = named instanceof MemberSelectTree select
                    ? select.getIdentifier().toString()
                    : ((IdentifierTree) named).getName().toString();
            if (named instanceof MemberSelectTree && Character.isUpperCase(named.toString().charAt(0))) {
                boolean own = Set.of("Script", "Simulation").contains(named.toString().split("\\.")[0]);
                CHECKS.yes("rule 4: library, " + named, own || LIBRARY.contains(named.toString()));
            }
            CHECKS.yes("rule 12: a constructor calls " + name, !atConstructor || name.equals("super"));
            if (!method.isEmpty()) {
                calls.get(method).add(name);
            }
            return super.visitMethodInvocation(t, v);
        }

        @Override
        public Void visitThrow(ThrowTree t, Void v) {
            CHECKS.yes("rule 6: no throw in a constructor", !atConstructor);
            NewClassTree made = (NewClassTree) t.getExpression();
            CHECKS.yes("rule 6: " + made, EXCEPTIONS.contains(made.getIdentifier().toString()));
            CHECKS.yes("rule 6: a written text", made.getArguments().stream().allMatch(a -> a instanceof LiteralTree));
            CHECKS.yes("rule 6: thrown by the face alone, not in " + method,
                    FACE.stream().anyMatch(f -> f.startsWith(method + "(")));
            return super.visitThrow(t, v);
        }

        @Override
        public Void visitNewClass(NewClassTree t, Void v) {
            boolean exception = EXCEPTIONS.contains(t.getIdentifier().toString());
            CHECKS.yes("the room: made in constructors alone, " + t, exception || atConstructor || method.isEmpty());
            return super.visitNewClass(t, v);
        }

        @Override
        public Void visitNewArray(NewArrayTree t, Void v) {
            CHECKS.yes("the room: arrays are made in constructors alone", atConstructor || method.isEmpty());
            return super.visitNewArray(t, v);
        }

        @Override
        public Void visitTry(TryTree t, Void v) {
            CHECKS.yes("no try is needed", false);
            return super.visitTry(t, v);
        }

        @Override
        public Void visitLambdaExpression(LambdaExpressionTree t, Void v) {
            CHECKS.yes("rule 2: no lambda", false);
            return super.visitLambdaExpression(t, v);
        }

        @Override
        public Void visitMemberReference(MemberReferenceTree t, Void v) {
            CHECKS.yes("rule 2: no method reference", false);
            return super.visitMemberReference(t, v);
        }

        @Override
        public Void visitWhileLoop(WhileLoopTree t, Void v) {
            CHECKS.yes("rule 9: a counter against a bound, not " + t.getCondition(), false);
            return super.visitWhileLoop(t, v);
        }

        @Override
        public Void visitBinary(BinaryTree t, Void v) {
            boolean text = List.of(t.getLeftOperand(), t.getRightOperand()).stream()
                    .anyMatch(o -> o instanceof LiteralTree literal && literal.getValue() instanceof String);
            CHECKS.yes("rule 10: no text in " + t, !text);
            if (t.getKind() == Tree.Kind.DIVIDE || t.getKind() == Tree.Kind.REMAINDER) {
                String by = t.getRightOperand().toString();
                CHECKS.yes("rule 7: divided by a constant, " + t, by.matches("[1-9][0-9]*|GROUP"));
            }
            return super.visitBinary(t, v);
        }

        /** How deep calls go, by the names of the methods; those that call themselves count once. */
        void depths() {
            for (String line : FACE) {
                String name = line.substring(0, line.indexOf('('));
                int depth = depth(name, new HashSet<>());
                CHECKS.yes("rule 11: " + name + " goes " + depth + " deep", depth <= 8);
            }
        }

        private int depth(String name, Set<String> open) {
            int deepest = 0;
            open.add(name);
            for (String called : calls.getOrDefault(name, Set.of())) {
                if (!open.contains(called)) {
                    deepest = Math.max(deepest, depth(called, open));
                }
            }
            open.remove(name);
            return deepest + 1;
        }
    }
}
