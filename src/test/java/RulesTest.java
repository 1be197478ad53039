import com.sun.source.tree.AssertTree;
import com.sun.source.tree.BinaryTree;
import com.sun.source.tree.ClassTree;
import com.sun.source.tree.CompilationUnitTree;
import com.sun.source.tree.ImportTree;
import com.sun.source.tree.InstanceOfTree;
import com.sun.source.tree.LambdaExpressionTree;
import com.sun.source.tree.MemberReferenceTree;
import com.sun.source.tree.MethodInvocationTree;
import com.sun.source.tree.MethodTree;
import com.sun.source.tree.NewClassTree;
import com.sun.source.tree.SynchronizedTree;
import com.sun.source.tree.ThrowTree;
import com.sun.source.tree.Tree;
import com.sun.source.tree.TryTree;
import com.sun.source.tree.TypeCastTree;
import com.sun.source.tree.VariableTree;
import com.sun.source.util.JavacTask;
import com.sun.source.util.TreePath;
import com.sun.source.util.TreePathScanner;
import com.sun.source.util.Trees;
import java.io.File;
import java.io.IOException;
import java.lang.reflect.Constructor;
import java.lang.reflect.Field;
import java.lang.reflect.Method;
import java.lang.reflect.Modifier;
import java.util.Arrays;
import java.util.LinkedHashMap;
import java.util.LinkedHashSet;
import java.util.List;
import java.util.Map;
import java.util.Set;
import java.util.TreeSet;
import javax.lang.model.element.Element;
import javax.lang.model.element.ExecutableElement;
import javax.lang.model.type.TypeKind;
import javax.tools.JavaCompiler;
import javax.tools.StandardJavaFileManager;
import javax.tools.ToolProvider;

/** The rules of LANGUAGE.md as far as a look at the source and at the class can tell, and the face of the document. */
public final class RulesTest {
    private static final Check CHECK = new Check("RulesTest");
    private static final String SOURCE = "src/main/java/FerryCrews.java";
    private static final String FACE = "sailing4 sailings0 cancel1 member2 certify3 climb2 leave2 sick2 well1 give3 giveUp2 fill1 "
        + "pass1 set2 type1 clearText0 fault0 undo0 keep0 restore0 sailingOf2 crew3 memberOf2 ladder2 rest3 leastRest2 overtime2 "
        + "count1 why3 able2 ifSick2 weakest1 atRisk0 cancelledIn1 freshest0";
    private static final Set<String> LIBRARY = Set.of("System.arraycopy", "Math.max", "Math.min", "Math.abs",
        "Integer.bitCount", "Arrays.fill", "Arrays.copyOf", "Arrays.copyOfRange");
    private static final int MOST_LINES = 60;
    private static final int MOST_PARAMETERS = 7;
    private static final int MOST_CLASSES = 12;
    private static final int MOST_FIELDS = 20;
    private static final int DEEPEST_CALLS = 8;

    public static void main(String[] args) throws IOException {
        face();
        constructor();
        constants();
        classesInside();
        source();
        objectsOfAllCalls();
        CHECK.end();
    }

    private static void face() {
        Set<String> told = new TreeSet<>();
        for (Method method : FerryCrews.class.getDeclaredMethods()) {
            boolean isFace = Modifier.isPublic(method.getModifiers()) && !Modifier.isStatic(method.getModifiers());
            if (isFace) {
                told.add(method.getName() + method.getParameterCount());
                CHECK.holds(method + " returns an int", method.getReturnType() == int.class);
                for (Class<?> type : method.getParameterTypes()) {
                    CHECK.holds(method + " takes ints", type == (method.getName().equals("type") ? char.class : int.class));
                }
            } else {
                CHECK.holds(method + " is private", Modifier.isPrivate(method.getModifiers()));
            }
        }
        CHECK.holds("the face is the document's: " + told, told.equals(new TreeSet<>(List.of(FACE.split(" ")))));
        CHECK.holds("final", Modifier.isFinal(FerryCrews.class.getModifiers()));
        CHECK.holds("public", Modifier.isPublic(FerryCrews.class.getModifiers()));
    }

    private static void constructor() {
        Constructor<?>[] all = FerryCrews.class.getDeclaredConstructors();
        CHECK.due("constructors", all.length, 1);
        CHECK.due("its parameters", all[0].getParameterCount(), 0);
        CHECK.holds("it is public", Modifier.isPublic(all[0].getModifiers()));
    }

    private static void constants() {
        Set<String> open = new TreeSet<>();
        for (Field field : FerryCrews.class.getDeclaredFields()) {
            if (!Modifier.isPrivate(field.getModifiers())) {
                open.add(Modifier.toString(field.getModifiers()) + " " + field.getType() + " " + field.getName());
            }
        }
        String kind = "public static final int ";
        Set<String> due = Set.of(kind + "UNKNOWN", kind + "BAD_VALUE", kind + "FULL", kind + "NOT_POSSIBLE", kind + "NONE");
        CHECK.holds("the constants are the document's: " + open, open.equals(due));
    }

    private static void classesInside() {
        Class<?>[] inside = FerryCrews.class.getDeclaredClasses();
        CHECK.holds("classes: " + inside.length, inside.length < MOST_CLASSES);
        Set<String> faceNames = new TreeSet<>();
        for (String name : FACE.split(" ")) {
            faceNames.add(name.substring(0, name.length() - 1));
        }
        for (Class<?> one : inside) {
            int modifiers = one.getModifiers();
            CHECK.holds(one + " is static", Modifier.isStatic(modifiers));
            CHECK.holds(one + " is not open", !Modifier.isPublic(modifiers) && !Modifier.isProtected(modifiers));
            for (Method method : one.getDeclaredMethods()) {
                CHECK.holds(method + " has a name of its own", !faceNames.contains(method.getName()));
            }
        }
        for (Class<?> one : FerryCrews.class.getNestMembers()) {
            long fields = Arrays.stream(one.getDeclaredFields()).filter(f -> !Modifier.isStatic(f.getModifiers())).count();
            CHECK.holds(one + " has so many fields: " + fields, fields <= MOST_FIELDS);
            for (Field field : one.getDeclaredFields()) {
                boolean isStatic = Modifier.isStatic(field.getModifiers());
                Class<?> type = field.getType();
                boolean fits = Modifier.isFinal(field.getModifiers()) && List.of(int.class, int[].class).contains(type);
                CHECK.holds(field + " is a constant", !isStatic || fits);
            }
        }
    }

    /** What the source is looked through for: words that are ruled out, long methods, and who calls whom. */
    private static final class Look extends TreePathScanner<Void, String> {
        private final Trees trees;
        private final CompilationUnitTree unit;
        private final Map<String, Set<String>> calls = new LinkedHashMap<>();

        Look(Trees trees, CompilationUnitTree unit) {
            this.trees = trees;
            this.unit = unit;
        }

        private long line(Tree tree, boolean end) {
            long at = end ? trees.getSourcePositions().getEndPosition(unit, tree) : trees.getSourcePositions().getStartPosition(unit, tree);
            return unit.getLineMap().getLineNumber(at);
        }

        private void ruledOut(String what, Tree tree) {
            CHECK.holds("line " + line(tree, false) + ": " + what + " is ruled out", false);
        }

        private static String name(ExecutableElement method) {
            return method.getEnclosingElement().getSimpleName() + "." + method.getSimpleName();
        }

        @Override
        public Void visitMethod(MethodTree tree, String caller) {
            long lines = line(tree, true) - line(tree, false) + 1;
            CHECK.holds(tree.getName() + " has so many lines: " + lines, lines <= MOST_LINES);
            CHECK.holds(tree.getName() + " has parameters", tree.getParameters().size() <= MOST_PARAMETERS);
            String name = name((ExecutableElement) trees.getElement(getCurrentPath()));
            calls.putIfAbsent(name, new LinkedHashSet<>());
            return super.visitMethod(tree, name);
        }

        @Override
        public Void visitMethodInvocation(MethodInvocationTree tree, String caller) {
            ExecutableElement called = (ExecutableElement) trees.getElement(new TreePath(getCurrentPath(), tree.getMethodSelect()));
            Element owner = called.getEnclosingElement();
            boolean isLibrary = owner.toString().startsWith("java.");
            boolean isSuper = called.getSimpleName().contentEquals("<init>");
            if (!isSuper) {
                CHECK.holds("the library's " + name(called), !isLibrary || LIBRARY.contains(name(called)));
                calls.get(caller).add(name(called));
            }
            return super.visitMethodInvocation(tree, caller);
        }

        @Override
        public Void visitNewClass(NewClassTree tree, String caller) {
            String made = tree.getIdentifier().toString();
            CHECK.holds(caller + " makes a " + made, caller.endsWith("<init>") && tree.getClassBody() == null);
            calls.get(caller).add(made + ".<init>");
            return super.visitNewClass(tree, caller);
        }

        @Override
        public Void visitClass(ClassTree tree, String caller) {
            CHECK.holds(tree.getSimpleName() + " stands in no method", caller == null);
            return super.visitClass(tree, null);
        }

        /** No two Strings, and no objects of the library: here there are numbers, null and own classes alone. */
        @Override
        public Void visitBinary(BinaryTree tree, String caller) {
            for (Tree side : List.of(tree.getLeftOperand(), tree.getRightOperand())) {
                TypeKind kind = trees.getTypeMirror(new TreePath(getCurrentPath(), side)).getKind();
                String type = trees.getTypeMirror(new TreePath(getCurrentPath(), side)).toString();
                CHECK.holds("compared is a " + type, kind != TypeKind.DECLARED || type.startsWith("FerryCrews."));
            }
            return super.visitBinary(tree, caller);
        }

        @Override
        public Void visitThrow(ThrowTree tree, String caller) {
            ruledOut("throw", tree);
            return super.visitThrow(tree, caller);
        }

        @Override
        public Void visitTry(TryTree tree, String caller) {
            ruledOut("try", tree);
            return super.visitTry(tree, caller);
        }

        @Override
        public Void visitLambdaExpression(LambdaExpressionTree tree, String caller) {
            ruledOut("a lambda", tree);
            return super.visitLambdaExpression(tree, caller);
        }

        @Override
        public Void visitMemberReference(MemberReferenceTree tree, String caller) {
            ruledOut("a method reference", tree);
            return super.visitMemberReference(tree, caller);
        }

        @Override
        public Void visitSynchronized(SynchronizedTree tree, String caller) {
            ruledOut("synchronized", tree);
            return super.visitSynchronized(tree, caller);
        }

        @Override
        public Void visitAssert(AssertTree tree, String caller) {
            ruledOut("assert", tree);
            return super.visitAssert(tree, caller);
        }

        @Override
        public Void visitInstanceOf(InstanceOfTree tree, String caller) {
            ruledOut("instanceof (not needed here)", tree);
            return super.visitInstanceOf(tree, caller);
        }

        @Override
        public Void visitTypeCast(TypeCastTree tree, String caller) {
            ruledOut("a cast (not needed here)", tree);
            return super.visitTypeCast(tree, caller);
        }

        @Override
        public Void visitImport(ImportTree tree, String caller) {
            ruledOut("an import (not needed here)", tree);
            return super.visitImport(tree, caller);
        }

        @Override
        public Void visitVariable(VariableTree tree, String caller) {
            String type = trees.getTypeMirror(getCurrentPath()).toString().replace("FerryCrews.", "");
            CHECK.holds(tree.getName() + " is a " + type, type.matches(
                "(int|char|boolean|int\\[\\]|char\\[\\]|(Sailing|Member|Ladder|Duties|State|History|Text)(\\[\\])?)"));
            return super.visitVariable(tree, caller);
        }

        int depthOf(String method, Set<String> above) {
            CHECK.holds(method + " does not call itself", !above.contains(method));
            Set<String> chain = new LinkedHashSet<>(above);
            int deepest = 0;
            if (chain.add(method)) {
                for (String called : calls.getOrDefault(method, Set.of())) {
                    deepest = Math.max(deepest, depthOf(called, chain));
                }
            }
            return deepest + 1;
        }
    }

    private static void source() throws IOException {
        JavaCompiler compiler = ToolProvider.getSystemJavaCompiler();
        try (StandardJavaFileManager files = compiler.getStandardFileManager(null, null, null)) {
            JavacTask task = (JavacTask) compiler.getTask(null, files, null, List.of("-proc:none"), null,
                files.getJavaFileObjects(new File(SOURCE)));
            CompilationUnitTree unit = task.parse().iterator().next();
            task.analyze();
            CHECK.holds("no package", unit.getPackageName() == null);
            Look look = new Look(Trees.instance(task), unit);
            look.scan(unit, null);
            for (String method : look.calls.keySet()) {
                int depth = look.depthOf(method, Set.of());
                CHECK.holds(method + " goes so deep: " + depth, depth <= DEEPEST_CALLS);
            }
            CharSequence text = unit.getSourceFile().getCharContent(true);
            CHECK.holds("characters 1 to 127 alone", text.chars().allMatch(c -> c >= 1 && c <= 127));
        }
    }

    /** One object and all its calls share one room; here the constructor alone makes anything. */
    private static void objectsOfAllCalls() {
        com.sun.management.ThreadMXBean threads =
            (com.sun.management.ThreadMXBean) java.lang.management.ManagementFactory.getThreadMXBean();
        long thread = Thread.currentThread().getId();
        long calls = 0;
        for (int turn = 0; turn < 20; turn++) {
            FerryCrews x = new FerryCrews();
            long before = threads.getThreadAllocatedBytes(thread);
            someCalls(x);
            calls = threads.getThreadAllocatedBytes(thread) - before;
        }
        CHECK.holds("bytes that some calls make: " + calls, calls < 4096);
    }

    private static void someCalls(FerryCrews x) {
        for (int n = 0; n < 12; n++) {
            x.member(n % 2, 900);
        }
        for (int n = 0; n < 24; n++) {
            x.sailing(n % 6, 20 * (n / 6) + n % 6, 5, 1100);
            x.fill(n);
        }
        x.type('1');
        x.fault();
        x.sailings();
        x.set(3, 0);
        x.weakest(60);
        x.sick(2, 60);
        x.keep();
        x.pass(30);
        x.restore();
        x.undo();
        for (int n = 0; n < 12; n++) {
            x.leastRest(n, 2);
            x.overtime(n, 0);
            x.memberOf(n, 7);
            x.able(n, 0);
            x.crew(n, 0, 2);
        }
        x.count(10);
    }
}
