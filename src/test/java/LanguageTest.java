import com.sun.source.tree.AssertTree;
import com.sun.source.tree.BinaryTree;
import com.sun.source.tree.BlockTree;
import com.sun.source.tree.ClassTree;
import com.sun.source.tree.CompilationUnitTree;
import com.sun.source.tree.ImportTree;
import com.sun.source.tree.LambdaExpressionTree;
import com.sun.source.tree.MemberReferenceTree;
import com.sun.source.tree.MethodInvocationTree;
import com.sun.source.tree.MethodTree;
import com.sun.source.tree.SynchronizedTree;
import com.sun.source.tree.Tree;
import com.sun.source.tree.TryTree;
import com.sun.source.tree.VariableTree;
import com.sun.source.util.JavacTask;
import com.sun.source.util.TreePath;
import com.sun.source.util.TreePathScanner;
import com.sun.source.util.Trees;
import java.lang.reflect.Constructor;
import java.lang.reflect.Field;
import java.lang.reflect.InvocationTargetException;
import java.lang.reflect.Method;
import java.lang.reflect.Modifier;
import java.nio.file.Files;
import java.nio.file.Path;
import java.util.ArrayList;
import java.util.Arrays;
import java.util.List;
import java.util.Map;
import java.util.Set;
import java.util.TreeMap;
import java.util.TreeSet;
import javax.lang.model.element.Element;
import javax.lang.model.element.ElementKind;
import javax.tools.JavaCompiler;
import javax.tools.StandardJavaFileManager;
import javax.tools.ToolProvider;

/** Those of the rules of LANGUAGE.md that can be read off the class and its source for certain. */
public final class LanguageTest {
    private static final Path SOURCE = Path.of("src/main/java/ScopeLines.java");
    private static final Path DOCUMENT = Path.of("../shared/DOC.md");
    private static final Set<String> IMPORTS = Set.of("java.util.Arrays", "java.util.ArrayList", "java.util.List",
            "java.util.Iterator", "java.util.NoSuchElementException");
    /** Rule 4, by classes; those of Integer, Long and Math are too many to be named. */
    private static final Map<String, Set<String>> LIBRARY = Map.of(
            "String", Set.of("length", "charAt", "isEmpty", "equals", "indexOf", "substring", "toCharArray"),
            "StringBuilder", Set.of("append", "charAt", "setCharAt", "setLength", "deleteCharAt", "reverse", "length",
                    "toString"),
            "ArrayList", Set.of("add", "get", "set", "remove", "size", "isEmpty", "clear"),
            "List", Set.of("add", "get", "set", "remove", "size", "isEmpty", "clear", "of"),
            "Iterator", Set.of("hasNext", "next"),
            "Iterable", Set.of("iterator"),
            "Comparable", Set.of("compareTo"),
            "System", Set.of("arraycopy"),
            "Arrays", Set.of("copyOf", "copyOfRange", "fill"));
    private static final Set<String> NUMBERS = Set.of("Integer", "Long", "Math");
    private static final int[] EXTREMES = {
        Integer.MIN_VALUE, -2, -1, 0, 1, 2, 3, 5, 6, 8, 9, 10, 24, 25, 99, 100, Integer.MAX_VALUE};

    private static final Check CHECK = new Check();

    /** What the source has of each kind of thing that a rule speaks of. */
    private static final class Reading extends TreePathScanner<Void, Void> {
        private final Trees trees;
        private final CompilationUnitTree unit;
        private final Map<String, Set<String>> calls = new TreeMap<>();
        final Set<String> otherNames = new TreeSet<>();
        final List<String> forbidden = new ArrayList<>();
        final List<String> strangers = new ArrayList<>();
        final List<String> looseStatics = new ArrayList<>();
        int mostParameters;

        Reading(Trees trees, CompilationUnitTree unit) {
            this.trees = trees;
            this.unit = unit;
        }

        private Element element() {
            return trees.getElement(getCurrentPath());
        }

        private String told(Tree tree) {
            long position = trees.getSourcePositions().getStartPosition(unit, tree);
            return "line " + unit.getLineMap().getLineNumber(position) + ": " + tree;
        }

        private static String nameOf(Element method) {
            return method.getEnclosingElement().getSimpleName() + "." + method;
        }

        /** The method round what is looked at; a field's initialiser has none. */
        private Element caller() {
            TreePath path = getCurrentPath();
            while (path != null && !(path.getLeaf() instanceof MethodTree)) {
                path = path.getParentPath();
            }
            return path == null ? null : trees.getElement(path);
        }

        private static boolean isOwn(Element member) {
            String owner = member.getEnclosingElement().toString();
            return owner.equals("ScopeLines") || owner.startsWith("ScopeLines.");
        }

        private static boolean isListed(String owner, String name) {
            return NUMBERS.contains(owner) && !name.endsWith("Exact")
                    || LIBRARY.getOrDefault(owner, Set.of()).contains(name)
                    || owner.equals("Enum") || name.equals("clone") || name.equals("<init>");
        }

        @Override
        public Void visitImport(ImportTree tree, Void nothing) {
            if (!IMPORTS.contains(tree.getQualifiedIdentifier().toString())) {
                strangers.add(told(tree));
            }
            return super.visitImport(tree, nothing);
        }

        @Override
        public Void visitMethod(MethodTree tree, Void nothing) {
            if (tree.getModifiers().getFlags().contains(javax.lang.model.element.Modifier.PRIVATE)) {
                otherNames.add(tree.getName().toString());
            }
            mostParameters = Math.max(mostParameters, tree.getParameters().size());
            return super.visitMethod(tree, nothing);
        }

        @Override
        public Void visitMethodInvocation(MethodInvocationTree tree, Void nothing) {
            Element called = element();
            Element caller = caller();
            if (!isOwn(called)) {
                String owner = called.getEnclosingElement().getSimpleName().toString();
                if (!isListed(owner, called.getSimpleName().toString())) {
                    strangers.add(told(tree));
                }
            } else if (caller != null) {
                calls.computeIfAbsent(nameOf(caller), none -> new TreeSet<>()).add(nameOf(called));
            }
            return super.visitMethodInvocation(tree, nothing);
        }

        @Override
        public Void visitVariable(VariableTree tree, Void nothing) {
            Set<javax.lang.model.element.Modifier> modifiers = element().getModifiers();
            if (element().getKind() == ElementKind.FIELD
                    && modifiers.contains(javax.lang.model.element.Modifier.STATIC)
                    && !modifiers.contains(javax.lang.model.element.Modifier.FINAL)) {
                looseStatics.add(told(tree));
            }
            return super.visitVariable(tree, nothing);
        }

        @Override
        public Void visitClass(ClassTree tree, Void nothing) {
            for (Tree member : tree.getMembers()) {
                if (member instanceof BlockTree && ((BlockTree) member).isStatic()) {
                    looseStatics.add(told(member));
                }
            }
            return super.visitClass(tree, nothing);
        }

        private void forbid(Tree tree) {
            forbidden.add(told(tree));
        }

        @Override
        public Void visitLambdaExpression(LambdaExpressionTree tree, Void nothing) {
            forbid(tree);
            return super.visitLambdaExpression(tree, nothing);
        }

        @Override
        public Void visitMemberReference(MemberReferenceTree tree, Void nothing) {
            forbid(tree);
            return super.visitMemberReference(tree, nothing);
        }

        @Override
        public Void visitSynchronized(SynchronizedTree tree, Void nothing) {
            forbid(tree);
            return super.visitSynchronized(tree, nothing);
        }

        @Override
        public Void visitAssert(AssertTree tree, Void nothing) {
            forbid(tree);
            return super.visitAssert(tree, nothing);
        }

        @Override
        public Void visitTry(TryTree tree, Void nothing) {
            if (tree.getFinallyBlock() != null || !tree.getResources().isEmpty()) {
                forbid(tree);
            }
            return super.visitTry(tree, nothing);
        }

        @Override
        public Void visitBinary(BinaryTree tree, Void nothing) {
            if (tree.getKind() == Tree.Kind.PLUS
                    && trees.getTypeMirror(getCurrentPath()).toString().equals("java.lang.String")) {
                forbid(tree);
            }
            return super.visitBinary(tree, nothing);
        }

        private Set<String> calledBy(String method) {
            return calls.getOrDefault(method, Set.of());
        }

        private Set<String> reachedFrom(String method) {
            Set<String> reached = new TreeSet<>();
            List<String> left = new ArrayList<>(calledBy(method));
            while (!left.isEmpty()) {
                String next = left.remove(left.size() - 1);
                if (reached.add(next)) {
                    left.addAll(calledBy(next));
                }
            }
            return reached;
        }

        /** How deep calls go that are no recursion: methods that call one another count as one. */
        int depthOf(String method, Map<String, Integer> known) {
            if (!known.containsKey(method)) {
                Set<String> circle = new TreeSet<>(reachedFrom(method));
                circle.removeIf(other -> !reachedFrom(other).contains(method));
                circle.add(method);
                int most = 0;
                for (String member : circle) {
                    for (String called : calledBy(member)) {
                        most = circle.contains(called) ? most : Math.max(most, depthOf(called, known));
                    }
                }
                known.put(method, most + 1);
            }
            return known.get(method);
        }
    }

    private static Reading read() throws Exception {
        JavaCompiler compiler = ToolProvider.getSystemJavaCompiler();
        try (StandardJavaFileManager files = compiler.getStandardFileManager(null, null, null)) {
            JavacTask task = (JavacTask) compiler.getTask(null, files, null, List.of("--release", "17"), null,
                    files.getJavaFileObjects(SOURCE));
            CompilationUnitTree unit = task.parse().iterator().next();
            task.analyze();
            Reading reading = new Reading(Trees.instance(task), unit);
            reading.scan(unit, null);
            return reading;
        }
    }

    /** The members of the document's face, written as those of the class are. */
    private static Set<String> faceOfDocument() throws Exception {
        Set<String> face = new TreeSet<>();
        for (String line : Files.readAllLines(DOCUMENT)) {
            String member = line.trim();
            if (member.startsWith("public ") && member.endsWith(";")) {
                face.add(member.replaceAll("( = .*)?;$", "").replaceAll("(int|long) \\w+(?=[,)])", "$1"));
            }
        }
        return face;
    }

    private static Set<String> faceOfClass() {
        Set<String> face = new TreeSet<>();
        for (Field field : ScopeLines.class.getDeclaredFields()) {
            if (!Modifier.isPrivate(field.getModifiers()) && !field.isSynthetic()) {
                face.add(Modifier.toString(field.getModifiers()) + " " + field.getType() + " " + field.getName());
            }
        }
        for (Constructor<?> made : ScopeLines.class.getDeclaredConstructors()) {
            if (!Modifier.isPrivate(made.getModifiers()) && !made.isSynthetic()) {
                face.add(Modifier.toString(made.getModifiers()) + " ScopeLines" + told(made.getParameterTypes()));
            }
        }
        for (Method method : ScopeLines.class.getDeclaredMethods()) {
            if (!Modifier.isPrivate(method.getModifiers()) && !method.isSynthetic()) {
                face.add(Modifier.toString(method.getModifiers()) + " " + method.getReturnType() + " "
                        + method.getName() + told(method.getParameterTypes()));
            }
        }
        return face;
    }

    private static String told(Class<?>[] types) {
        List<String> names = new ArrayList<>();
        for (Class<?> type : types) {
            names.add(type.getName());
        }
        return "(" + String.join(", ", names) + ")";
    }

    private static List<Method> publicMethods() {
        List<Method> methods = new ArrayList<>(Arrays.asList(ScopeLines.class.getDeclaredMethods()));
        methods.removeIf(method -> !Modifier.isPublic(method.getModifiers()));
        return methods;
    }

    private static void rule1(Reading reading) throws Exception {
        CHECK.sentence("rule 1: the class of the document, public and final, and no other member");
        CHECK.due("the class", Modifier.toString(ScopeLines.class.getModifiers()), "public final");
        CHECK.due("members that are not private", faceOfClass().toString(), faceOfDocument().toString());
        CHECK.sentence("rule 1: the classes inside it are private or package-visible and static");
        for (Class<?> inside : ScopeLines.class.getDeclaredClasses()) {
            int modifiers = inside.getModifiers();
            CHECK.due(inside + " is seen", Modifier.isPublic(modifiers) || Modifier.isProtected(modifiers), false);
            CHECK.due(inside + " is static", Modifier.isStatic(modifiers), true);
        }
        CHECK.sentence("rule 1: no private method bears the name of a public one");
        for (Method method : publicMethods()) {
            CHECK.due(method.getName(), reading.otherNames.contains(method.getName()), false);
        }
    }

    private static void rulesOfTheSource(Reading reading) {
        CHECK.sentence("rule 4: only what stands here");
        CHECK.due("imports and calls of other things", reading.strangers.toString(), "[]");
        CHECK.sentence("rule 5: static fields are final; no static initialiser block");
        CHECK.due("others", reading.looseStatics.toString(), "[]");
        CHECK.sentence("rules 2, 6, 10: no lambda, method reference, finally, synchronized, assert, texts joined by +");
        CHECK.due("such", reading.forbidden.toString(), "[]");
        CHECK.sentence("rule 11: a method takes at most seven parameters");
        CHECK.due(reading.mostParameters + " parameters", reading.mostParameters <= 7, true);
        CHECK.sentence("rule 11: calls that are no recursion go at most eight deep");
        Map<String, Integer> depths = new TreeMap<>();
        for (Method method : publicMethods()) {
            String name = "ScopeLines." + method.getName() + told(method.getParameterTypes()).replace(" ", "");
            int depth = reading.depthOf(name, depths);
            CHECK.due(name + " goes " + depth + " deep", depth <= 8, true);
        }
    }

    /** Row n of all rows of extremes that a method can be given. */
    private static Object[] arguments(Class<?>[] types, int n) {
        Object[] row = new Object[types.length];
        int rest = n;
        for (int i = 0; i < row.length; i++) {
            int extreme = EXTREMES[rest % EXTREMES.length];
            row[i] = types[i] == long.class ? (Object) (extreme * 0x1000001L) : (Object) extreme;
            rest /= EXTREMES.length;
        }
        return row;
    }

    private static void dueNothingThrown(ScopeLines x, Method method) throws Exception {
        int rows = 1;
        for (int i = 0; i < method.getParameterCount(); i++) {
            rows *= EXTREMES.length;
        }
        for (int n = 0; n < rows; n++) {
            Object[] row = arguments(method.getParameterTypes(), n);
            String thrown = "nothing";
            try {
                method.invoke(x, row);
            } catch (InvocationTargetException e) {
                thrown = e.getCause().toString();
            }
            CHECK.due("what " + method.getName() + Arrays.toString(row) + " threw", thrown, "nothing");
        }
    }

    /** Nine rules, six lines, one of them marked, one with five open ranges, and a draft. */
    private static ScopeLines full() {
        ScopeLines x = new ScopeLines(300);
        Check.range(x, "(<)(.?) \\2\\1|>", 0, 1);
        x.include(1, 0);
        Check.range(x, "^ $", 1, 2);
        Check.piece(x, "(b+)+a", 0, 3);
        for (int r = 4; r <= 9; r++) {
            Check.piece(x, "[!-;=-~]", r % 3, r);
        }
        String[] texts = {"bbbbbbbbbbbbbbbbbbbbbbbb", "<a<b<c<d<e<f", ">>>", "", "<x", "<<"};
        for (int k = 0; k < texts.length; k++) {
            Check.put(x, texts[k], k);
        }
        Check.draft(x, "(a|b)*?");
        return x;
    }

    private static void rule7() throws Exception {
        CHECK.sentence("rule 7: no call may ever throw by itself, for any arguments in any state");
        CHECK.due("a marked line", full().marked(0), true);
        CHECK.due("open ranges", full().state(1, -1), 5);
        for (Method method : publicMethods()) {
            dueNothingThrown(new ScopeLines(0), method);
            dueNothingThrown(full(), method);
        }
    }

    public static void main(String[] args) throws Exception {
        Reading reading = read();
        rule1(reading);
        rulesOfTheSource(reading);
        rule7();
        CHECK.finish("LanguageTest");
    }
}
