import com.sun.source.tree.AssertTree;
import com.sun.source.tree.BinaryTree;
import com.sun.source.tree.ClassTree;
import com.sun.source.tree.CompilationUnitTree;
import com.sun.source.tree.DoWhileLoopTree;
import com.sun.source.tree.ExpressionStatementTree;
import com.sun.source.tree.ExpressionTree;
import com.sun.source.tree.ForLoopTree;
import com.sun.source.tree.ImportTree;
import com.sun.source.tree.LambdaExpressionTree;
import com.sun.source.tree.LiteralTree;
import com.sun.source.tree.MemberReferenceTree;
import com.sun.source.tree.MethodInvocationTree;
import com.sun.source.tree.MethodTree;
import com.sun.source.tree.NewArrayTree;
import com.sun.source.tree.NewClassTree;
import com.sun.source.tree.SynchronizedTree;
import com.sun.source.tree.ThrowTree;
import com.sun.source.tree.Tree;
import com.sun.source.tree.TryTree;
import com.sun.source.tree.TypeCastTree;
import com.sun.source.tree.VariableTree;
import com.sun.source.tree.WhileLoopTree;
import com.sun.source.util.JavacTask;
import com.sun.source.util.TreePath;
import com.sun.source.util.TreePathScanner;
import com.sun.source.util.Trees;
import java.lang.reflect.Array;
import java.lang.reflect.Constructor;
import java.lang.reflect.Field;
import java.lang.reflect.InvocationTargetException;
import java.lang.reflect.Method;
import java.lang.reflect.Modifier;
import java.nio.file.Files;
import java.nio.file.Path;
import java.util.ArrayList;
import java.util.Arrays;
import java.util.Collections;
import java.util.IdentityHashMap;
import java.util.List;
import java.util.Map;
import java.util.Set;
import java.util.TreeMap;
import java.util.TreeSet;
import javax.lang.model.element.Element;
import javax.lang.model.element.ElementKind;
import javax.lang.model.element.VariableElement;
import javax.tools.JavaCompiler;
import javax.tools.StandardJavaFileManager;
import javax.tools.ToolProvider;

/**
 * The rules of LANGUAGE.md that can be read off the class and its source. Where the class does with less than a rule
 * leaves it (no loop but for, no exception, no text), the test asks for that, as it is easier to see.
 */
public final class LanguageTest {
    private static final Path SOURCE = Path.of("src/main/java/ScopeLines.java");
    private static final Path DOCUMENT = Path.of("../shared/DOC.md");
    private static final Set<String> LIBRARY = Set.of("Math.max", "Math.min", "System.arraycopy", "Arrays.fill");
    private static final Set<String> TYPES = Set.of("int", "long", "char", "boolean",
            "int[]", "long[]", "char[]", "boolean[]");
    private static final int[] EXTREMES = {
        Integer.MIN_VALUE, -2, -1, 0, 1, 2, 3, 5, 6, 8, 9, 10, 24, 25, 99, 100, Integer.MAX_VALUE};

    private static final Check CHECK = new Check();

    /** What the source has of each kind of thing that a rule speaks of. */
    private static final class Reading extends TreePathScanner<Void, Void> {
        final Trees trees;
        final CompilationUnitTree unit;
        final Map<String, Set<String>> calls = new TreeMap<>();
        final Map<String, Integer> fields = new TreeMap<>();
        final List<String> publicMethods = new ArrayList<>();
        final Set<String> otherNames = new TreeSet<>();
        final List<String> imports = new ArrayList<>();
        final List<String> forbidden = new ArrayList<>();
        final List<String> strangeTypes = new ArrayList<>();
        final List<String> strangeCalls = new ArrayList<>();
        final List<String> looseStatics = new ArrayList<>();
        final List<String> lateObjects = new ArrayList<>();
        final List<String> looseLoops = new ArrayList<>();
        final Set<String> classes = new TreeSet<>();
        int mostParameters;
        long longestMethod;

        Reading(Trees trees, CompilationUnitTree unit) {
            this.trees = trees;
            this.unit = unit;
        }

        private Element element() {
            return trees.getElement(getCurrentPath());
        }

        private long lineAt(long position) {
            return unit.getLineMap().getLineNumber(position);
        }

        private String told(Tree tree) {
            return "line " + lineAt(trees.getSourcePositions().getStartPosition(unit, tree)) + ": " + tree;
        }

        private static String nameOf(Element method) {
            return method.getEnclosingElement().getSimpleName() + "." + method;
        }

        private MethodTree method() {
            for (TreePath path = getCurrentPath(); path != null; path = path.getParentPath()) {
                if (path.getLeaf() instanceof MethodTree) {
                    return (MethodTree) path.getLeaf();
                }
            }
            return null;
        }

        private boolean isOwn(Element member) {
            String owner = member.getEnclosingElement().toString();
            return owner.equals("ScopeLines") || owner.startsWith("ScopeLines.");
        }

        @Override
        public Void visitImport(ImportTree tree, Void nothing) {
            imports.add(tree.getQualifiedIdentifier().toString());
            return super.visitImport(tree, nothing);
        }

        @Override
        public Void visitClass(ClassTree tree, Void nothing) {
            classes.add(tree.getSimpleName().toString());
            fields.put(tree.getSimpleName().toString(), 0);
            return super.visitClass(tree, nothing);
        }

        @Override
        public Void visitMethod(MethodTree tree, Void nothing) {
            Element method = element();
            if (method.getModifiers().contains(javax.lang.model.element.Modifier.PUBLIC)) {
                publicMethods.add(nameOf(method));
            } else if (method.getKind() == ElementKind.METHOD) {
                otherNames.add(tree.getName().toString());
            }
            mostParameters = Math.max(mostParameters, tree.getParameters().size());
            long first = lineAt(trees.getSourcePositions().getStartPosition(unit, tree));
            long last = lineAt(trees.getSourcePositions().getEndPosition(unit, tree));
            longestMethod = Math.max(longestMethod, last - first + 1);
            return super.visitMethod(tree, nothing);
        }

        @Override
        public Void visitVariable(VariableTree tree, Void nothing) {
            VariableElement variable = (VariableElement) element();
            String type = tree.getType().toString();
            if (!TYPES.contains(type) && !classes.contains(type.replace("[]", ""))) {
                strangeTypes.add(told(tree));
            }
            boolean isStatic = variable.getModifiers().contains(javax.lang.model.element.Modifier.STATIC);
            if (isStatic && variable.getConstantValue() == null) {
                looseStatics.add(told(tree));
            }
            if (!isStatic && variable.getKind() == ElementKind.FIELD) {
                fields.merge(variable.getEnclosingElement().getSimpleName().toString(), 1, Integer::sum);
            }
            return super.visitVariable(tree, nothing);
        }

        @Override
        public Void visitMethodInvocation(MethodInvocationTree tree, Void nothing) {
            Element called = element();
            String name = called.getEnclosingElement().getSimpleName() + "." + called.getSimpleName();
            if (isOwn(called)) {
                Element caller = trees.getElement(trees.getPath(unit, method()));
                calls.computeIfAbsent(nameOf(caller), none -> new TreeSet<>()).add(nameOf(called));
            } else if (!LIBRARY.contains(name) && !name.equals("Object.<init>")) {
                strangeCalls.add(told(tree));
            }
            return super.visitMethodInvocation(tree, nothing);
        }

        private void lookAtNew(Tree tree) {
            MethodTree method = method();
            if (method != null && method.getReturnType() != null) {
                lateObjects.add(told(tree));
            }
        }

        @Override
        public Void visitNewClass(NewClassTree tree, Void nothing) {
            lookAtNew(tree);
            return super.visitNewClass(tree, nothing);
        }

        @Override
        public Void visitNewArray(NewArrayTree tree, Void nothing) {
            lookAtNew(tree);
            return super.visitNewArray(tree, nothing);
        }

        /** A for that counts one variable against a bound, which nothing else in it sets. */
        @Override
        public Void visitForLoop(ForLoopTree tree, Void nothing) {
            boolean counts = tree.getInitializer().size() == 1 && tree.getUpdate().size() == 1
                    && tree.getInitializer().get(0) instanceof VariableTree;
            if (counts) {
                String counter = ((VariableTree) tree.getInitializer().get(0)).getName().toString();
                String update = ((ExpressionStatementTree) tree.getUpdate().get(0)).getExpression().toString();
                String setAnew = "(?s).*\\b" + counter + "( (=|[-+*/%&|^]=|<<=|>>=|>>>=) |\\+\\+|--).*";
                counts = isBound(tree.getCondition(), counter)
                        && update.matches(counter + "(\\+\\+|--| [+-]= [1-9][0-9]*)")
                        && !tree.getStatement().toString().matches(setAnew);
            }
            if (!counts) {
                looseLoops.add(told(tree));
            }
            return super.visitForLoop(tree, nothing);
        }

        private boolean isBound(ExpressionTree condition, String counter) {
            if (!(condition instanceof BinaryTree)) {
                return false;
            }
            BinaryTree both = (BinaryTree) condition;
            if (both.getKind() == Tree.Kind.CONDITIONAL_AND) {
                return isBound(both.getLeftOperand(), counter) || isBound(both.getRightOperand(), counter);
            }
            boolean compares = Set.of(Tree.Kind.LESS_THAN, Tree.Kind.LESS_THAN_EQUAL, Tree.Kind.GREATER_THAN,
                    Tree.Kind.GREATER_THAN_EQUAL).contains(both.getKind());
            return compares && both.getLeftOperand().toString().equals(counter);
        }

        private Void forbid(Tree tree) {
            forbidden.add(told(tree));
            return null;
        }

        @Override
        public Void visitWhileLoop(WhileLoopTree tree, Void nothing) {
            return forbid(tree);
        }

        @Override
        public Void visitDoWhileLoop(DoWhileLoopTree tree, Void nothing) {
            return forbid(tree);
        }

        @Override
        public Void visitLambdaExpression(LambdaExpressionTree tree, Void nothing) {
            return forbid(tree);
        }

        @Override
        public Void visitMemberReference(MemberReferenceTree tree, Void nothing) {
            return forbid(tree);
        }

        @Override
        public Void visitThrow(ThrowTree tree, Void nothing) {
            return forbid(tree);
        }

        @Override
        public Void visitTry(TryTree tree, Void nothing) {
            return forbid(tree);
        }

        @Override
        public Void visitSynchronized(SynchronizedTree tree, Void nothing) {
            return forbid(tree);
        }

        @Override
        public Void visitAssert(AssertTree tree, Void nothing) {
            return forbid(tree);
        }

        @Override
        public Void visitTypeCast(TypeCastTree tree, Void nothing) {
            return TYPES.contains(tree.getType().toString()) ? super.visitTypeCast(tree, nothing) : forbid(tree);
        }

        @Override
        public Void visitLiteral(LiteralTree tree, Void nothing) {
            return tree.getKind() == Tree.Kind.STRING_LITERAL ? forbid(tree) : super.visitLiteral(tree, nothing);
        }

        /** How many calls stand open at once below a method, itself among them; 1,000 if it calls itself. */
        int depthOf(String method, List<String> open) {
            if (open.contains(method)) {
                return 1000;
            }
            List<String> opened = new ArrayList<>(open);
            opened.add(method);
            int most = 0;
            for (String called : calls.getOrDefault(method, Set.of())) {
                most = Math.max(most, depthOf(called, opened));
            }
            return most + 1;
        }
    }

    private static Reading read() throws Exception {
        JavaCompiler compiler = ToolProvider.getSystemJavaCompiler();
        try (StandardJavaFileManager files = compiler.getStandardFileManager(null, null, null)) {
            JavacTask task = (JavacTask) compiler.getTask(null, files, null, List.of("--release", "17"), null,
                    files.getJavaFileObjects(SOURCE));
            CompilationUnitTree unit = task.parse().iterator().next();
            task.analyze();
            Reading reading = new Reading(Trees.instance(task), unit);
            // The names of all classes are needed before types are looked at.
            for (Class<?> inside : ScopeLines.class.getDeclaredClasses()) {
                reading.classes.add(inside.getSimpleName());
            }
            reading.scan(unit, null);
            return reading;
        }
    }

    /** The members of the document's face, written as reflection writes them here. */
    private static Set<String> faceOfDocument() throws Exception {
        Set<String> face = new TreeSet<>();
        for (String line : Files.readAllLines(DOCUMENT)) {
            String member = line.trim();
            if (member.startsWith("public ") && member.endsWith(";")) {
                face.add(member.replaceAll("( = .*)?;$", "").replaceAll("(int|long) \\w+(?=[,)])", "$1"));
            }
        }
        return face;
    }

    private static Set<String> faceOfClass() {
        Set<String> face = new TreeSet<>();
        for (Field field : ScopeLines.class.getDeclaredFields()) {
            if (!Modifier.isPrivate(field.getModifiers())) {
                face.add(Modifier.toString(field.getModifiers()) + " " + field.getType() + " " + field.getName());
            }
        }
        for (Constructor<?> made : ScopeLines.class.getDeclaredConstructors()) {
            if (!Modifier.isPrivate(made.getModifiers())) {
                face.add(Modifier.toString(made.getModifiers()) + " ScopeLines" + told(made.getParameterTypes()));
            }
        }
        for (Method method : ScopeLines.class.getDeclaredMethods()) {
            if (!Modifier.isPrivate(method.getModifiers()) && !method.isSynthetic()) {
                face.add(Modifier.toString(method.getModifiers()) + " " + method.getReturnType() + " "
                        + method.getName() + told(method.getParameterTypes()));
            }
        }
        return face;
    }

    private static String told(Class<?>[] types) {
        List<String> names = new ArrayList<>();
        for (Class<?> type : types) {
            names.add(type.getName());
        }
        return "(" + String.join(", ", names) + ")";
    }

    private static void rules1To3(Reading reading) throws Exception {
        CHECK.sentence("rule 1: the face");
        CHECK.due("members that are not private", faceOfClass().toString(), faceOfDocument().toString());
        CHECK.due("the class", Modifier.toString(ScopeLines.class.getModifiers()), "public final");
        for (Class<?> inside : ScopeLines.class.getDeclaredClasses()) {
            int modifiers = inside.getModifiers();
            CHECK.due(inside + " is static", Modifier.isStatic(modifiers), true);
            CHECK.due(inside + " is not seen", Modifier.isPublic(modifiers) || Modifier.isProtected(modifiers), false);
        }
        CHECK.sentence("rule 1: no private method bears the name of a public one");
        for (Method method : ScopeLines.class.getMethods()) {
            CHECK.due(method.getName(), reading.otherNames.contains(method.getName()), false);
        }
        CHECK.sentence("rule 3: types");
        CHECK.due("other types", reading.strangeTypes.toString(), "[]");
    }

    private static void rules4To9(Reading reading) {
        CHECK.sentence("rule 4: the library");
        CHECK.due("imports", reading.imports.toString(), "[java.util.Arrays]");
        CHECK.due("other calls", reading.strangeCalls.toString(), "[]");
        CHECK.sentence("rule 5: static fields are final constants");
        CHECK.due("other static fields", reading.looseStatics.toString(), "[]");
        CHECK.sentence("rules 2, 6, 10: no lambda, exception, assert, while, text");
        CHECK.due("such", reading.forbidden.toString(), "[]");
        CHECK.sentence("rule 9: every loop has an end that can be seen from its own lines");
        CHECK.due("other loops", reading.looseLoops.toString(), "[]");
    }

    /** Row n of all rows of arguments for a method. */
    private static Object[] arguments(Class<?>[] types, int n) {
        Object[] row = new Object[types.length];
        int rest = n;
        for (int i = 0; i < row.length; i++) {
            int extreme = EXTREMES[rest % EXTREMES.length];
            row[i] = types[i] == long.class ? (Object) (extreme * 0x1000001L) : (Object) extreme;
            rest /= EXTREMES.length;
        }
        return row;
    }

    private static void dueNothingThrown(ScopeLines x, Method method) throws Exception {
        int rows = 1;
        for (int i = 0; i < method.getParameterCount(); i++) {
            rows *= EXTREMES.length;
        }
        for (int n = 0; n < rows; n++) {
            Object[] row = arguments(method.getParameterTypes(), n);
            String thrown = "nothing";
            try {
                method.invoke(x, row);
            } catch (InvocationTargetException e) {
                thrown = e.getCause().toString();
            }
            CHECK.due(method.getName() + Arrays.toString(row) + " threw", thrown, "nothing");
        }
    }

    private static ScopeLines full() {
        ScopeLines x = new ScopeLines(300);
        Check.range(x, "(<)(.?) \\2\\1|>", 0, 1);
        x.include(1, 0);
        Check.range(x, "^ $", 1, 2);
        Check.piece(x, "(b+)+a", 2, 3);
        for (int r = 4; r <= 9; r++) {
            Check.piece(x, "[!-~]", r % 3, r);
        }
        String[] texts = {"<<<<<<<<<<<<<<<<<<<<<<<<", "bbbbbbbbbbbbbbbbbbbbbbbb", "", "<a<b<c", ">>>", "<x"};
        for (int k = 0; k < texts.length; k++) {
            Check.put(x, texts[k], k);
        }
        Check.draft(x, "(a|b)*?");
        return x;
    }

    /** Also behind the 512th call, when answers are free. */
    private static void rule7() throws Exception {
        CHECK.sentence("rule 7: no call may ever throw by itself");
        for (Method method : ScopeLines.class.getDeclaredMethods()) {
            if (Modifier.isPublic(method.getModifiers())) {
                dueNothingThrown(new ScopeLines(0), method);
                dueNothingThrown(full(), method);
            }
        }
    }

    private static void rules8And11(Reading reading) {
        CHECK.sentence("rules 8 and 11: no recursion, calls go at most eight deep");
        CHECK.due("public members", reading.publicMethods.size(), 18);
        for (String method : reading.publicMethods) {
            int depth = reading.depthOf(method, List.of());
            CHECK.due(method + " goes " + depth + " deep", depth <= 8, true);
        }
        CHECK.sentence("rule 11: parameters, lines, classes, fields");
        CHECK.due(reading.mostParameters + " parameters", reading.mostParameters <= 7, true);
        CHECK.due(reading.longestMethod + " lines", reading.longestMethod <= 60, true);
        CHECK.due(reading.classes.size() + " classes", reading.classes.size() <= 12, true);
        reading.fields.forEach((name, count) -> CHECK.due(name + " has " + count + " fields", count <= 20, true));
    }

    /** Adds an object, and all that it has, to those that are counted; how many fields and elements that are. */
    private static int count(Object thing, Set<Object> counted) throws Exception {
        if (thing == null || !counted.add(thing)) {
            return 0;
        }
        int parts = 0;
        if (thing.getClass().isArray()) {
            parts = Array.getLength(thing);
            for (int i = 0; i < Array.getLength(thing) && thing instanceof Object[]; i++) {
                parts += count(Array.get(thing, i), counted);
            }
            return parts;
        }
        for (Field field : thing.getClass().getDeclaredFields()) {
            if (!Modifier.isStatic(field.getModifiers())) {
                field.setAccessible(true);
                parts += 1 + (field.getType().isPrimitive() ? 0 : count(field.get(thing), counted));
            }
        }
        return parts;
    }

    private static String roomOf(ScopeLines x) throws Exception {
        Set<Object> counted = Collections.newSetFromMap(new IdentityHashMap<>());
        int parts = count(x, counted);
        CHECK.due(counted.size() + " objects and arrays", counted.size() < 300, true);
        CHECK.due(parts + " fields and elements", parts < 10000, true);
        return counted.size() + " objects and arrays with " + parts + " fields and elements";
    }

    private static void rule12(Reading reading) throws Exception {
        CHECK.sentence("rule 12: what a run makes is kept small: rows are made in constructors alone");
        CHECK.due("what methods make", reading.lateObjects.toString(), "[]");
        ScopeLines x = new ScopeLines(300);
        String room = roomOf(x);
        Check.range(x, "(a)(b?) \\2\\1", 0, 5);
        Check.piece(x, "[a-c]+", 1, 6);
        x.include(1, 0);
        x.theme(5, 0, 9);
        Check.put(x, "xabcba", 0);
        CHECK.due("the room after some calls", roomOf(x), room);
        System.out.println("an object has " + room);
    }

    public static void main(String[] args) throws Exception {
        Reading reading = read();
        rules1To3(reading);
        rules4To9(reading);
        rule7();
        rules8And11(reading);
        rule12(reading);
        CHECK.finish("LanguageTest");
    }
}
