import java.io.IOException;
import java.lang.reflect.Field;
import java.lang.reflect.InvocationTargetException;
import java.lang.reflect.Method;
import java.lang.reflect.Modifier;
import java.nio.file.Files;
import java.nio.file.Path;
import java.util.ArrayList;
import java.util.List;
import java.util.Random;
import java.util.Set;
import java.util.TreeSet;
import java.util.regex.Matcher;
import java.util.regex.Pattern;

/**
 * What stands ahead of the promises: the face as the document writes it, objects by themselves, any
 * arguments in any state; and the README: it names every call, and its examples answer what it says.
 */
public final class FaceTests {
    private static final Path DOCUMENT = Path.of("../shared/DOC.md");
    private static final Path README = Path.of("README.md");
    private static final int MOST_CALLS = 512;
    private static final int[] INTS = {Integer.MIN_VALUE, -3, -1, 0, 1, 2, 5, 6, 7, 10, 15, 40, 63, 99, 900, Integer.MAX_VALUE};
    private static final String BUSY = "planks 3 bear 19;plank 2 bears 4;person;person;person at 4;person at 3;person at 1;"
        + "person;owes 0 to 1 of 9;owes 1 to 0 of 7;owes 2 to 0 of 3;weighs:debt+snow+(who-2)*who*2;lets:who<4;snowy 6;day 40;";
    private static final Bench B = new Bench("FaceTests");

    public static void main(String[] args) throws IOException {
        String document = Files.readString(DOCUMENT);
        String readme = Files.readString(README);
        List<String> face = faceOf(document);
        B.due("the document's face has 47 members and the class", face.size(), 48);
        membersAreThose(face);
        callsAreGrouped(document, readme);
        anyArguments();
        objectsByThemselves();
        examples(readme);
        B.end();
    }

    /** The lines of the document's face, each up to its semicolon, without the class's own brackets. */
    private static List<String> faceOf(String document) {
        int start = document.indexOf("public final class DebtBridge {");
        String block = document.substring(start, document.indexOf("\n}", start));
        List<String> lines = new ArrayList<>();
        for (String line : block.split("\n")) {
            String one = line.trim();
            lines.add(one.endsWith(";") ? one.substring(0, one.length() - 1) : one);
        }
        return lines;
    }

    private static void membersAreThose(List<String> face) {
        Set<String> due = new TreeSet<>();
        for (String line : face) {
            due.add(line.replaceAll("(int|long|boolean) \\w+([,)])", "$1$2").replace(", ", ","));
        }
        Set<String> there = new TreeSet<>();
        there.add(Modifier.toString(DebtBridge.class.getModifiers()) + " class DebtBridge {");
        for (Method m : DebtBridge.class.getDeclaredMethods()) {
            if (!Modifier.isPrivate(m.getModifiers())) {
                there.add(Modifier.toString(m.getModifiers()) + " " + m.getReturnType() + " " + m.getName() + typesOf(m.getParameterTypes()));
            }
        }
        for (java.lang.reflect.Constructor<?> c : DebtBridge.class.getDeclaredConstructors()) {
            there.add(Modifier.toString(c.getModifiers()) + " DebtBridge" + typesOf(c.getParameterTypes()));
        }
        for (Field f : DebtBridge.class.getDeclaredFields()) {
            if (!Modifier.isPrivate(f.getModifiers())) {
                there.add(Modifier.toString(f.getModifiers()) + " " + f.getType() + " " + f.getName() + " = " + DebtBridge.NONE);
            }
        }
        for (String one : due) {
            B.due("the class has " + one, there.contains(one) ? 1 : 0, 1);
        }
        for (String one : there) {
            B.due("the document has " + one, due.contains(one) ? 1 : 0, 1);
        }
        B.due("it extends nothing", DebtBridge.class.getSuperclass() == Object.class && DebtBridge.class.getInterfaces().length == 0 ? 1 : 0, 1);
    }

    private static String typesOf(Class<?>[] types) {
        StringBuilder all = new StringBuilder("(");
        for (Class<?> type : types) {
            all.append(all.length() > 1 ? "," : "").append(type);
        }
        return all.append(")").toString();
    }

    /** Each call stands in one group of the document, and in the row of that group in the README. */
    private static void callsAreGrouped(String document, String readme) {
        Matcher groups = Pattern.compile("Ahead of the calls (.*) the interface says: ---- (.*)\\.").matcher(document);
        Set<String> named = new TreeSet<>();
        int many = 0;
        while (groups.find()) {
            String row = "";
            for (String line : readme.split("\n")) {
                row = line.startsWith("| " + groups.group(2) + " |") ? line : row;
            }
            for (String call : groups.group(1).split(", ")) {
                many++;
                named.add(call.replace("`", ""));
                B.due("README tells of " + call + " at " + groups.group(2), row.contains(call) ? 1 : 0, 1);
            }
        }
        Set<String> there = new TreeSet<>();
        for (Method m : calls()) {
            there.add(m.getName());
        }
        B.due("calls in groups", many, there.size());
        B.due("all calls are in groups", named.equals(there) ? 1 : 0, 1);
    }

    private static List<Method> calls() {
        List<Method> all = new ArrayList<>();
        for (Method m : DebtBridge.class.getDeclaredMethods()) {
            if (Modifier.isPublic(m.getModifiers())) {
                all.add(m);
            }
        }
        all.sort((a, b) -> a.getName().compareTo(b.getName()));
        return all;
    }

    /** What a call answers; a call that throws counts as a wrong answer. */
    private static long answer(DebtBridge x, Method m, Object[] with) {
        try {
            return ((Number) m.invoke(x, with)).longValue();
        } catch (InvocationTargetException thrown) {
            B.due(m.getName() + java.util.Arrays.toString(with) + " throws " + thrown.getCause(), 0, 1);
        } catch (IllegalAccessException thrown) {
            B.due(m.getName() + " can't be called", 0, 1);
        }
        return 0;
    }

    private static DebtBridge inState(int state) {
        DebtBridge x = state == 0 ? new DebtBridge() : Bench.told(state == 1 ? BUSY : "planks 8 bear 0;");
        if (state > 0) {
            x.seed(12);
            x.days(3);
            x.image(0);
            Bench.fill(x, 0, -1, 0, 300, 101, 201, Long.MIN_VALUE);
            Bench.fill(x, 1, 1, 0);
            Bench.fill(x, 2, Long.MAX_VALUE, -1, 4, 4294967296L, 9, 1L << 63 | 1);
        }
        return x;
    }

    /** Every call with ints from far below to far above all that can be, on objects in three states. */
    private static void anyArguments() {
        for (int state = 0; state < 3; state++) {
            for (Method m : calls()) {
                int many = Math.min(3, m.getParameterCount());
                int combinations = (int) Math.pow(INTS.length, many);
                DebtBridge x = inState(state);
                for (int i = 0; i < combinations; i++) {
                    if (i % 400 == 399) {
                        x = inState(state);
                    }
                    long got = answer(x, m, argumentsOf(m, i));
                    boolean known = m.getName().equals("write") || m.getName().equals("seed") || m.getName().equals("net")
                        || got >= -7 || got <= -11 && got >= -14 || got <= -31 && got >= -34;
                    if (!known) {
                        B.due(m.getName() + " answers by a code", got, 0);
                    }
                }
                B.due(m.getName() + " in state " + state, 1, 1);
            }
        }
    }

    private static Object[] argumentsOf(Method m, int which) {
        Object[] with = new Object[m.getParameterCount()];
        int rest = which;
        for (int i = 0; i < with.length; i++) {
            int n = INTS[rest % INTS.length];
            rest /= i < 2 ? INTS.length : 1;
            Class<?> type = m.getParameterTypes()[i];
            with[i] = type == boolean.class ? (Object) (n % 2 == 0) : type == long.class ? (Object) (n * 4294967297L) : (Object) n;
        }
        return with;
    }

    /** The same calls give the same answers, whatever is done with other objects between them. */
    private static void objectsByThemselves() {
        List<Method> calls = calls();
        for (int run = 0; run < 20; run++) {
            Random random = new Random(run);
            DebtBridge[] two = {inState(1), inState(1)};
            DebtBridge other = inState(run % 3);
            for (int i = 0; i < MOST_CALLS - 100; i++) {
                Method m = calls.get(random.nextInt(calls.size()));
                Object[] with = argumentsOf(m, random.nextInt(INTS.length * INTS.length * INTS.length));
                long first = answer(two[0], m, with);
                Method between = calls.get(random.nextInt(calls.size()));
                answer(other, between, argumentsOf(between, random.nextInt(INTS.length * INTS.length * INTS.length)));
                B.due(m.getName() + java.util.Arrays.toString(with) + " of two alike", answer(two[1], m, with), first);
            }
        }
    }

    /** The README's examples: rows 'tell(x, "..")' and 'x.call(..);', each with its answer behind //. */
    private static void examples(String readme) {
        Pattern row = Pattern.compile("(?m)^(?:tell\\(x, \"([^\"]*)\"\\)|x\\.(\\w+)\\(([^)]*)\\)); +// (-?\\d+)");
        Matcher rows = row.matcher(readme.replaceAll("\"\\s*\\+ \"", ""));
        DebtBridge x = new DebtBridge();
        int many = 0;
        while (rows.find()) {
            many++;
            long due = Long.parseLong(rows.group(4));
            String call = rows.group(0);
            B.due("README: " + call, rows.group(1) != null ? Bench.tell(x, rows.group(1)) : called(x, rows.group(2), rows.group(3)), due);
        }
        B.due("README has examples", many >= 20 ? 1 : 0, 1);
    }

    private static long called(DebtBridge x, String name, String told) {
        String[] words = told.isEmpty() ? new String[0] : told.split(", ");
        for (Method m : calls()) {
            if (m.getName().equals(name) && m.getParameterCount() == words.length) {
                Object[] with = new Object[words.length];
                for (int i = 0; i < words.length; i++) {
                    Class<?> type = m.getParameterTypes()[i];
                    with[i] = type == boolean.class ? (Object) Boolean.valueOf(words[i])
                        : type == long.class ? (Object) Long.decode(words[i]) : (Object) Long.decode(words[i]).intValue();
                }
                return answer(x, m, with);
            }
        }
        B.due("README: there is a call " + name, 0, 1);
        return 0;
    }
}
