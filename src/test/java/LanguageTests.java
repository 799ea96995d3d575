import com.sun.source.tree.AssertTree;
import com.sun.source.tree.BinaryTree;
import com.sun.source.tree.ClassTree;
import com.sun.source.tree.CompilationUnitTree;
import com.sun.source.tree.ImportTree;
import com.sun.source.tree.LambdaExpressionTree;
import com.sun.source.tree.MemberReferenceTree;
import com.sun.source.tree.MemberSelectTree;
import com.sun.source.tree.MethodInvocationTree;
import com.sun.source.tree.MethodTree;
import com.sun.source.tree.NewClassTree;
import com.sun.source.tree.SynchronizedTree;
import com.sun.source.tree.ThrowTree;
import com.sun.source.tree.Tree;
import com.sun.source.tree.TryTree;
import com.sun.source.tree.VariableTree;
import com.sun.source.util.JavacTask;
import com.sun.source.util.TreePath;
import com.sun.source.util.TreePathScanner;
import com.sun.source.util.Trees;
import java.io.IOException;
import java.lang.management.ManagementFactory;
import java.nio.file.Files;
import java.nio.file.Path;
import java.util.ArrayList;
import java.util.HashMap;
import java.util.HashSet;
import java.util.List;
import java.util.Map;
import java.util.Set;
import java.util.TreeSet;
import javax.lang.model.element.Element;
import javax.lang.model.element.ElementKind;
import javax.lang.model.element.ExecutableElement;
import javax.lang.model.element.Modifier;
import javax.lang.model.element.TypeElement;
import javax.lang.model.type.TypeMirror;
import javax.tools.JavaCompiler;
import javax.tools.StandardJavaFileManager;
import javax.tools.ToolProvider;

/** The rules of LANGUAGE.md that can be told from the source, the face, and the room a run takes. */
public final class LanguageTests extends TreePathScanner<Void, Void> {
    private static final Path SOURCE = Path.of("src/main/java/DebtBridge.java");
    private static final Set<String> LIBRARY = Set.of("Math.max", "Math.min", "Integer.bitCount", "System.arraycopy",
        "Arrays.fill", "Arrays.copyOf", "String.length", "String.charAt", "String.indexOf", "Object.<init>");
    private static final List<String> FACE = List.of("int feed(int,int,int,int,int)", "int bridge(int)", "int fault(int)",
        "int person(int,int)", "int owes(int,int)", "int plank(int,int)", "int seed(int)", "int step(int,boolean)",
        "int hand(int,int)", "int tear(int,int)", "int cancel(int)", "int mend(int)", "int days(int)", "int undo(int)",
        "int judge(int,int)", "int perform(int)", "int season(int,int)", "int alone(int)", "int able()", "int tears(int,int)",
        "int row(int)", "int order(int,int)", "int orders(int)", "int apart(int,int)", "int net(int)", "int coin()",
        "int settles()", "int rings()", "int ring(int)", "int heaviest()", "int forgive()", "int mends(int)",
        "int mendsAt(int,int)", "int mendsAll()", "int torn(int)", "int tornAt(int,int)", "int weighed(int)",
        "long chance(int,int,int)", "int likely(int,int)", "int numbers(int,int,int)", "long write(int,int,long)",
        "int lists(int)", "int image(int)", "int restore(int)", "int count(int)");
    private static final Bench B = new Bench("LanguageTests");

    private final Trees trees;
    private final CompilationUnitTree unit;
    private final Map<Element, Set<Element>> calls = new HashMap<>();
    private final Set<String> faceNames = new HashSet<>();
    private int classes = 0;

    private LanguageTests(Trees trees, CompilationUnitTree unit) {
        this.trees = trees;
        this.unit = unit;
        for (String one : FACE) {
            faceNames.add(one.substring(one.indexOf(' ') + 1, one.indexOf('(')));
        }
    }

    public static void main(String[] args) throws IOException {
        face();
        source();
        room();
        B.end();
    }

    private static void rule(int number, String what, boolean kept) {
        B.due("rule " + number + ": " + what, kept ? 1 : 0, 1);
    }

    private static void face() {
        Set<String> due = new TreeSet<>(FACE);
        Set<String> there = new TreeSet<>();
        for (java.lang.reflect.Method m : DebtBridge.class.getDeclaredMethods()) {
            int modifiers = m.getModifiers();
            if (!java.lang.reflect.Modifier.isPrivate(modifiers)) {
                StringBuilder one = new StringBuilder(m.getReturnType() + " " + m.getName() + "(");
                for (Class<?> type : m.getParameterTypes()) {
                    one.append(one.charAt(one.length() - 1) == '(' ? "" : ",").append(type);
                }
                there.add(one.append(")").toString());
                rule(1, "public: " + m, java.lang.reflect.Modifier.isPublic(modifiers)
                    && !java.lang.reflect.Modifier.isStatic(modifiers));
            }
        }
        rule(1, "the face is " + there, there.equals(due));
        for (java.lang.reflect.Field f : DebtBridge.class.getDeclaredFields()) {
            rule(1, "private: " + f, java.lang.reflect.Modifier.isPrivate(f.getModifiers()) || f.getName().equals("NONE"));
        }
        rule(1, "one constructor", DebtBridge.class.getConstructors().length == 1
            && DebtBridge.class.getDeclaredConstructors().length == 1);
    }

    private static void source() throws IOException {
        String text = Files.readString(SOURCE);
        rule(4, "signs 1 to 127", text.chars().allMatch(c -> c >= 1 && c <= 127));
        JavaCompiler compiler = ToolProvider.getSystemJavaCompiler();
        try (StandardJavaFileManager files = compiler.getStandardFileManager(null, null, null)) {
            JavacTask task = (JavacTask) compiler.getTask(null, files, null, List.of("-proc:none"), null,
                files.getJavaFileObjects(SOURCE));
            CompilationUnitTree unit = task.parse().iterator().next();
            task.analyze();
            LanguageTests scan = new LanguageTests(Trees.instance(task), unit);
            scan.scan(unit, null);
            scan.depths();
        }
    }

    private void no(int number, String what, Tree at) {
        long line = unit.getLineMap().getLineNumber(trees.getSourcePositions().getStartPosition(unit, at));
        rule(number, "no " + what + " in line " + line, false);
    }

    @Override
    public Void visitImport(ImportTree tree, Void v) {
        String name = tree.getQualifiedIdentifier().toString();
        rule(4, name, Set.of("java.util.Arrays", "java.util.ArrayList", "java.util.List", "java.util.Iterator").contains(name));
        return null;
    }

    @Override
    public Void visitClass(ClassTree tree, Void v) {
        classes++;
        Element element = trees.getElement(getCurrentPath());
        rule(11, "some twelve classes", classes <= 12);
        rule(2, "static " + element, classes == 1 || element.getModifiers().contains(Modifier.STATIC));
        int fields = 0;
        for (Tree member : tree.getMembers()) {
            if (member instanceof VariableTree field) {
                boolean constant = field.getModifiers().getFlags().contains(Modifier.STATIC);
                fields += constant ? 0 : 1;
                rule(5, "final: " + field.getName(), !constant || field.getModifiers().getFlags().contains(Modifier.FINAL));
                rule(5, "a constant of " + field.getType(), !constant || Set.of("int", "long", "boolean", "char", "String")
                    .contains(field.getType().toString()));
            }
        }
        rule(11, "some twenty fields in " + element, fields <= 20);
        return super.visitClass(tree, v);
    }

    @Override
    public Void visitMethod(MethodTree tree, Void v) {
        ExecutableElement method = (ExecutableElement) trees.getElement(getCurrentPath());
        calls.putIfAbsent(method, new HashSet<>());
        long from = unit.getLineMap().getLineNumber(Math.max(0, trees.getSourcePositions().getStartPosition(unit, tree)));
        long to = unit.getLineMap().getLineNumber(Math.max(0, trees.getSourcePositions().getEndPosition(unit, tree)));
        rule(11, "some sixty lines: " + method, to - from < 60);
        rule(11, "seven parameters: " + method, tree.getParameters().size() <= 7);
        boolean shown = method.getModifiers().contains(Modifier.PUBLIC);
        rule(1, "no name of the face: " + method, shown || !faceNames.contains(method.getSimpleName().toString()));
        return super.visitMethod(tree, v);
    }

    private void note(Element called) {
        TreePath path = getCurrentPath();
        while (path != null && !(path.getLeaf() instanceof MethodTree)) {
            path = path.getParentPath();
        }
        if (path != null && called != null) {
            calls.computeIfAbsent(trees.getElement(path), k -> new HashSet<>()).add(called);
        }
    }

    @Override
    public Void visitMethodInvocation(MethodInvocationTree tree, Void v) {
        Element called = trees.getElement(new TreePath(getCurrentPath(), tree.getMethodSelect()));
        if (called != null) {
            TypeElement owner = (TypeElement) called.getEnclosingElement();
            if (!owner.getQualifiedName().toString().startsWith("DebtBridge")) {
                String name = owner.getSimpleName() + "." + called.getSimpleName();
                rule(4, name, LIBRARY.contains(name));
            } else {
                note(called);
            }
        }
        return super.visitMethodInvocation(tree, v);
    }

    @Override
    public Void visitMemberSelect(MemberSelectTree tree, Void v) {
        Element named = trees.getElement(getCurrentPath());
        if (named != null && named.getKind() == ElementKind.FIELD && named.getEnclosingElement() != null) {
            boolean own = named.getEnclosingElement().toString().startsWith("DebtBridge");
            // the length of an array is a field of a class that has no package
            boolean length = named.getEnclosingElement().toString().equals("Array");
            rule(4, "no field of the library: " + tree, own || length);
        }
        return super.visitMemberSelect(tree, v);
    }

    @Override
    public Void visitNewClass(NewClassTree tree, Void v) {
        rule(2, "no anonymous class", tree.getClassBody() == null);
        Element called = trees.getElement(getCurrentPath());
        rule(4, "own: " + called, called != null && called.getEnclosingElement().toString().startsWith("DebtBridge"));
        note(called);
        return super.visitNewClass(tree, v);
    }

    @Override
    public Void visitBinary(BinaryTree tree, Void v) {
        TypeMirror type = trees.getTypeMirror(getCurrentPath());
        rule(10, "texts not by +", type == null || !type.toString().equals("java.lang.String"));
        return super.visitBinary(tree, v);
    }

    @Override
    public Void visitThrow(ThrowTree tree, Void v) {
        no(6, "throw", tree);
        return null;
    }

    @Override
    public Void visitTry(TryTree tree, Void v) {
        no(6, "try", tree);
        return null;
    }

    @Override
    public Void visitSynchronized(SynchronizedTree tree, Void v) {
        no(6, "synchronized", tree);
        return null;
    }

    @Override
    public Void visitAssert(AssertTree tree, Void v) {
        no(6, "assert", tree);
        return null;
    }

    @Override
    public Void visitLambdaExpression(LambdaExpressionTree tree, Void v) {
        no(2, "lambda", tree);
        return null;
    }

    @Override
    public Void visitMemberReference(MemberReferenceTree tree, Void v) {
        no(2, "method reference", tree);
        return null;
    }

    /** How deep calls go, methods that call one another in a ring counted as one. */
    private void depths() {
        Map<Element, Set<Element>> reached = new HashMap<>();
        for (Element method : calls.keySet()) {
            Set<Element> all = new HashSet<>();
            List<Element> next = new ArrayList<>(calls.get(method));
            while (!next.isEmpty()) {
                Element one = next.remove(next.size() - 1);
                if (all.add(one)) {
                    next.addAll(calls.getOrDefault(one, Set.of()));
                }
            }
            reached.put(method, all);
        }
        int deepest = 0;
        for (Element method : calls.keySet()) {
            if (method.getModifiers().contains(Modifier.PUBLIC) && method.getKind() == ElementKind.METHOD) {
                int depth = depth(method, reached, new HashMap<>());
                rule(11, "eight deep: " + method + " goes " + depth, depth <= 8);
                deepest = Math.max(deepest, depth);
            }
        }
        rule(11, "calls were found", deepest > 3 && calls.size() > FACE.size());
    }

    private int depth(Element method, Map<Element, Set<Element>> reached, Map<Element, Integer> known) {
        Integer before = known.get(method);
        if (before != null) {
            return before;
        }
        Set<Element> ring = new HashSet<>(Set.of(method));
        for (Element other : reached.getOrDefault(method, Set.of())) {
            if (reached.getOrDefault(other, Set.of()).contains(method)) {
                ring.add(other);
            }
        }
        int below = 0;
        for (Element one : ring) {
            for (Element called : calls.getOrDefault(one, Set.of())) {
                if (!ring.contains(called)) {
                    below = Math.max(below, depth(called, reached, known));
                }
            }
        }
        known.put(method, below + 1);
        return below + 1;
    }

    /** A run of 512 of each dear call stays far inside the room, so none makes rows as it goes. */
    private static void room() {
        com.sun.management.ThreadMXBean threads = (com.sun.management.ThreadMXBean) ManagementFactory.getThreadMXBean();
        long id = Thread.currentThread().getId();
        long before = threads.getThreadAllocatedBytes(id);
        DebtBridge x = new DebtBridge();
        long made = threads.getThreadAllocatedBytes(id) - before;
        rule(12, "a new object takes " + made + " bytes", made < 40000);
        String text = "planks 8 bear 999;person;person;person;person;person;person;owes 0 to 1 of 9;owes 1 to 0 of 9;";
        Bench.tell(x, text + "weighs:debt+owed*2-papers;lets:weight<99 or others<3;snowy 5;");
        x.numbers(0, 0, 40);
        x.numbers(1, 0, 6);
        ask(x);
        before = threads.getThreadAllocatedBytes(id);
        for (int i = 0; i < 40; i++) {
            ask(x);
        }
        long took = threads.getThreadAllocatedBytes(id) - before;
        rule(12, "calls make nothing, but took " + took + " bytes", took < 20000);
    }

    private static void ask(DebtBridge x) {
        x.orders(63);
        x.order(63, 3);
        x.perform(0);
        x.judge(0, 2);
        x.season(3, 40);
        x.days(99);
        x.undo(1);
        x.tears(0, 1);
        x.forgive();
        x.rings();
        x.settles();
        x.chance(0, 15, 0);
        x.likely(0, 99);
        x.torn(1);
        x.weighed(1);
        x.image(0);
        x.restore(0);
    }
}
