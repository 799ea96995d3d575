import com.sun.source.tree.AssignmentTree;
import com.sun.source.tree.BinaryTree;
import com.sun.source.tree.CompilationUnitTree;
import com.sun.source.tree.CompoundAssignmentTree;
import com.sun.source.tree.ConditionalExpressionTree;
import com.sun.source.tree.ExpressionStatementTree;
import com.sun.source.tree.ExpressionTree;
import com.sun.source.tree.IfTree;
import com.sun.source.tree.LiteralTree;
import com.sun.source.tree.MethodInvocationTree;
import com.sun.source.tree.ReturnTree;
import com.sun.source.tree.Tree;
import com.sun.source.tree.UnaryTree;
import com.sun.source.util.JavacTask;
import com.sun.source.util.TreePath;
import com.sun.source.util.TreePathScanner;
import com.sun.source.util.Trees;
import java.io.File;
import java.io.IOException;
import java.nio.file.Files;
import java.nio.file.Path;
import java.util.ArrayList;
import java.util.Comparator;
import java.util.List;
import java.util.Map;
import java.util.concurrent.ExecutorService;
import java.util.concurrent.Executors;
import java.util.concurrent.Future;
import java.util.concurrent.TimeUnit;
import java.util.stream.Stream;
import javax.lang.model.type.TypeKind;
import javax.lang.model.type.TypeMirror;
import javax.tools.JavaCompiler;
import javax.tools.StandardJavaFileManager;
import javax.tools.ToolProvider;

/**
 * Breaks the class in one place at a time and tells which breaks a test doesn't see. Run by hand,
 * with the compiled tests on the class path: java -cp OUT Mutants EdgeTests [line ..]. The whole
 * takes minutes; of what it tells, most are breaks of what can never be seen.
 */
public final class Mutants extends TreePathScanner<Void, Void> {
    private static final Path SOURCE = Path.of("src/main/java/DebtBridge.java");
    private static final int SECONDS = 30;
    private static final Map<Tree.Kind, String[]> INSTEAD = Map.ofEntries(
        Map.entry(Tree.Kind.LESS_THAN, new String[] {"<=", ">="}), Map.entry(Tree.Kind.LESS_THAN_EQUAL, new String[] {"<", ">"}),
        Map.entry(Tree.Kind.GREATER_THAN, new String[] {">=", "<="}), Map.entry(Tree.Kind.GREATER_THAN_EQUAL, new String[] {">", "<"}),
        Map.entry(Tree.Kind.EQUAL_TO, new String[] {"!="}), Map.entry(Tree.Kind.NOT_EQUAL_TO, new String[] {"=="}),
        Map.entry(Tree.Kind.PLUS, new String[] {"-"}), Map.entry(Tree.Kind.MINUS, new String[] {"+"}),
        Map.entry(Tree.Kind.MULTIPLY, new String[] {"+"}), Map.entry(Tree.Kind.DIVIDE, new String[] {"*"}),
        Map.entry(Tree.Kind.REMAINDER, new String[] {"+"}), Map.entry(Tree.Kind.CONDITIONAL_AND, new String[] {"||"}),
        Map.entry(Tree.Kind.CONDITIONAL_OR, new String[] {"&&"}), Map.entry(Tree.Kind.AND, new String[] {"|"}),
        Map.entry(Tree.Kind.OR, new String[] {"&"}), Map.entry(Tree.Kind.UNSIGNED_RIGHT_SHIFT, new String[] {">>"}));

    private record Mutant(int start, int end, String with, long line) {
    }

    private final Trees trees;
    private final CompilationUnitTree unit;
    private final String text;
    private final List<Mutant> mutants = new ArrayList<>();

    private Mutants(Trees trees, CompilationUnitTree unit, String text) {
        this.trees = trees;
        this.unit = unit;
        this.text = text;
    }

    public static void main(String[] args) throws Exception {
        String test = args.length > 0 ? args[0] : "EdgeTests";
        String text = Files.readString(SOURCE);
        List<String> lines = List.of(args).subList(Math.min(1, args.length), args.length);
        List<Mutant> mutants = all(text);
        mutants.removeIf(one -> !lines.isEmpty() && !lines.contains("" + one.line));
        ExecutorService workers = Executors.newFixedThreadPool(Runtime.getRuntime().availableProcessors());
        List<Future<String>> ends = new ArrayList<>();
        for (Mutant one : mutants) {
            ends.add(workers.submit(() -> tried(text, one, test)));
        }
        int unseen = 0;
        for (int i = 0; i < mutants.size(); i++) {
            Mutant one = mutants.get(i);
            if (ends.get(i).get().equals("unseen")) {
                unseen++;
                String was = text.substring(one.start, one.end).replaceAll("\\s+", " ");
                System.out.println("line " + one.line + ": " + was + "  ->  " + one.with.replaceAll("\\s+", " "));
            }
        }
        workers.shutdown();
        System.out.println(mutants.size() + " mutants, " + unseen + " unseen by " + test);
    }

    private static List<Mutant> all(String text) throws IOException {
        JavaCompiler compiler = ToolProvider.getSystemJavaCompiler();
        try (StandardJavaFileManager files = compiler.getStandardFileManager(null, null, null)) {
            JavacTask task = (JavacTask) compiler.getTask(null, files, null, List.of("-proc:none"), null, files.getJavaFileObjects(SOURCE));
            CompilationUnitTree unit = task.parse().iterator().next();
            task.analyze();
            Mutants scan = new Mutants(Trees.instance(task), unit, text);
            scan.scan(unit, null);
            return scan.mutants;
        }
    }

    /** How one mutant ends: seen by the test (or by the compiler, or by the clock), or unseen. */
    private static String tried(String text, Mutant one, String test) throws Exception {
        Path dir = Files.createTempDirectory("mutant");
        try {
            Path source = dir.resolve("DebtBridge.java");
            Files.writeString(source, text.substring(0, one.start) + one.with + text.substring(one.end));
            JavaCompiler compiler = ToolProvider.getSystemJavaCompiler();
            try (StandardJavaFileManager files = compiler.getStandardFileManager(null, null, null)) {
                boolean compiles = compiler.getTask(null, files, d -> { }, List.of("-nowarn", "-proc:none", "-d", dir.toString()), null,
                    files.getJavaFileObjects(source)).call();
                if (!compiles) {
                    return "seen";
                }
            }
            String path = dir + File.pathSeparator + System.getProperty("java.class.path");
            Process run = new ProcessBuilder("java", "-XX:TieredStopAtLevel=1", "-Xshare:auto", "-cp", path, test)
                .redirectErrorStream(true).redirectOutput(ProcessBuilder.Redirect.DISCARD).start();
            if (!run.waitFor(SECONDS, TimeUnit.SECONDS)) {
                run.destroyForcibly();
                return "seen";
            }
            return run.exitValue() == 0 ? "unseen" : "seen";
        } finally {
            try (Stream<Path> all = Files.walk(dir)) {
                all.sorted(Comparator.reverseOrder()).forEach(p -> p.toFile().delete());
            }
        }
    }

    private int start(Tree tree) {
        return (int) trees.getSourcePositions().getStartPosition(unit, tree);
    }

    private int end(Tree tree) {
        return (int) trees.getSourcePositions().getEndPosition(unit, tree);
    }

    private void instead(int from, int to, String with) {
        if (from >= 0 && to >= from) {
            mutants.add(new Mutant(from, to, with, unit.getLineMap().getLineNumber(from)));
        }
    }

    private String of(Tree tree) {
        return text.substring(start(tree), end(tree));
    }

    private void not(ExpressionTree condition) {
        instead(start(condition), end(condition), "!(" + of(condition) + ")");
    }

    @Override
    public Void visitBinary(BinaryTree tree, Void v) {
        int from = end(tree.getLeftOperand());
        int to = start(tree.getRightOperand());
        String between = text.substring(from, to);
        String sign = between.replaceAll("[\\s()]", "");
        for (String other : INSTEAD.getOrDefault(tree.getKind(), new String[0])) {
            instead(from, to, between.replace(sign, other));
        }
        if (tree.getKind() == Tree.Kind.CONDITIONAL_AND || tree.getKind() == Tree.Kind.CONDITIONAL_OR) {
            String still = tree.getKind() == Tree.Kind.CONDITIONAL_AND ? "true" : "false";
            instead(start(tree.getLeftOperand()), end(tree.getLeftOperand()), still);
            instead(start(tree.getRightOperand()), end(tree.getRightOperand()), still);
        }
        return super.visitBinary(tree, v);
    }

    @Override
    public Void visitLiteral(LiteralTree tree, Void v) {
        Object value = tree.getValue();
        if (value instanceof Integer n) {
            instead(start(tree), end(tree), "" + (n + 1));
            instead(start(tree), end(tree), "(" + (n - 1) + ")");
        } else if (value instanceof Boolean b) {
            instead(start(tree), end(tree), "" + !b);
        }
        return null;
    }

    @Override
    public Void visitUnary(UnaryTree tree, Void v) {
        if (tree.getKind() == Tree.Kind.LOGICAL_COMPLEMENT) {
            instead(start(tree), end(tree), of(tree.getExpression()));
        }
        return super.visitUnary(tree, v);
    }

    @Override
    public Void visitIf(IfTree tree, Void v) {
        not(tree.getCondition());
        return super.visitIf(tree, v);
    }

    @Override
    public Void visitConditionalExpression(ConditionalExpressionTree tree, Void v) {
        not(tree.getCondition());
        return super.visitConditionalExpression(tree, v);
    }

    @Override
    public Void visitReturn(ReturnTree tree, Void v) {
        ExpressionTree told = tree.getExpression();
        TypeMirror type = told == null ? null : trees.getTypeMirror(new TreePath(getCurrentPath(), told));
        if (type != null && type.getKind() == TypeKind.BOOLEAN) {
            not(told);
        } else if (type != null && (type.getKind() == TypeKind.INT || type.getKind() == TypeKind.LONG)) {
            instead(start(told), end(told), "(" + of(told) + ") + 1");
        }
        return super.visitReturn(tree, v);
    }

    @Override
    public Void visitExpressionStatement(ExpressionStatementTree tree, Void v) {
        ExpressionTree told = tree.getExpression();
        if (told instanceof MethodInvocationTree || told instanceof AssignmentTree || told instanceof CompoundAssignmentTree
            || told instanceof UnaryTree) {
            instead(start(tree), end(tree), ";");
        }
        return super.visitExpressionStatement(tree, v);
    }
}
