import java.math.BigInteger;
import java.util.ArrayDeque;
import java.util.ArrayList;
import java.util.HashMap;
import java.util.HashSet;
import java.util.List;
import java.util.Map;
import java.util.Set;
import java.util.function.ToIntFunction;

/**
 * The document once more, told as plainly as Java with its whole library can: what the class
 * answers by a short cut is walked, tried or counted out here. ModelTests compares the two.
 */
final class Model {
    static final class Fault extends RuntimeException {
        final int kind;
        final int place;

        Fault(int kind, int place) {
            super(null, null, false, false);
            this.kind = kind;
            this.place = place;
        }
    }

    /** What a law knows when it is asked. */
    record Known(Map<String, Integer> words) {
    }

    static final class Token {
        final String text;
        final int place;
        final boolean wrong;

        Token(String text, int place, boolean wrong) {
            this.text = text;
            this.place = place;
            this.wrong = wrong;
        }

        boolean isNumber() {
            return !wrong && !text.isEmpty() && Character.isDigit(text.charAt(0));
        }
    }

    /** All that undoing brings back, and THE BRIDGE. */
    static final class Sight implements Cloneable {
        int planks = 1;
        int people = 0;
        int lines = 0;
        int snowy = 0;
        List<Integer> bears = new ArrayList<>(List.of(0));
        ToIntFunction<Known> weighs = null;
        ToIntFunction<Known> lets = null;
        List<Integer> place = new ArrayList<>();
        Map<Integer, Integer> paper = new HashMap<>();
        Set<Integer> broken = new HashSet<>();
        List<Integer> mended = new ArrayList<>(List.of(0));
        int day = 0;
        boolean snow = false;
        int x = 0;

        Sight twin() {
            Sight s = new Sight();
            s.planks = planks;
            s.people = people;
            s.lines = lines;
            s.snowy = snowy;
            s.bears = new ArrayList<>(bears);
            s.weighs = weighs;
            s.lets = lets;
            s.place = new ArrayList<>(place);
            s.paper = new HashMap<>(paper);
            s.broken = new HashSet<>(broken);
            s.mended = new ArrayList<>(mended);
            s.day = day;
            s.snow = snow;
            s.x = x;
            return s;
        }

        boolean isPerson(long p) {
            return p >= 0 && p < people;
        }

        int owes(int p, int q) {
            return paper.getOrDefault(10 * p + q, 0);
        }

        int debt(int p) {
            return paper.entrySet().stream().filter(e -> e.getKey() / 10 == p).mapToInt(Map.Entry::getValue).sum();
        }

        int papers(int p) {
            return (int) paper.keySet().stream().filter(k -> k / 10 == p).count();
        }

        int owed(int p) {
            return paper.entrySet().stream().filter(e -> e.getKey() % 10 == p).mapToInt(Map.Entry::getValue).sum();
        }

        int weight(int p) {
            if (weighs == null) {
                return debt(p);
            }
            int w = weighs.applyAsInt(new Known(Map.of("who", p, "day", day % 7, "snow", snow ? 1 : 0,
                    "debt", debt(p), "papers", papers(p), "owed", owed(p))));
            return w < 0 ? 0 : w > 9999 ? 9999 : w;
        }

        boolean may(int p, int k) {
            if (lets == null) {
                return true;
            }
            int others = 0;
            for (int q = 0; q < people; q++) {
                if (q != p && place.get(q) >= 1 && place.get(q) <= planks) {
                    others++;
                }
            }
            return lets.applyAsInt(new Known(Map.of("who", p, "day", day % 7, "snow", snow ? 1 : 0,
                    "plank", k, "weight", weight(p), "others", others))) == 1;
        }

        int bears(int k) {
            return bears.get(k) + 10 * mended.get(k);
        }

        int[] weights() {
            int[] all = new int[people];
            for (int p = 0; p < people; p++) {
                all[p] = weight(p);
            }
            return all;
        }

        int on(int k, int[] weights) {
            int sum = 0;
            for (int p = 0; k >= 0 && k < planks && p < people; p++) {
                if (place.get(p) == k + 1) {
                    sum += weights[p];
                }
            }
            return sum;
        }

        int load(int k, int[] weights) {
            return on(k, weights) + (on(k - 1, weights) + on(k + 1, weights)) / 2;
        }

        /** The planks that break, in their order. */
        List<Integer> look() {
            List<Integer> gone = new ArrayList<>();
            int[] weights = weights();
            boolean more = true;
            while (more) {
                more = false;
                for (int k = 0; k < planks && !more; k++) {
                    if (!broken.contains(k) && load(k, weights) > bears(k)) {
                        more = true;
                        broken.add(k);
                        gone.add(k);
                        for (int p = 0; p < people; p++) {
                            if (place.get(p) == k + 1) {
                                place.set(p, -1);
                            }
                        }
                    }
                }
            }
            return gone;
        }

        int draw() {
            x = x * 1103515245 + 12345;
            return x >>> 16;
        }

        void passDay() {
            day++;
            snow = draw() % 10 < snowy;
            look();
        }

        int whyNotMove(int p, int to) {
            if (place.get(p) == -1 || to < 0 || to > planks + 1) {
                return 2;
            }
            if (to >= 1 && to <= planks && broken.contains(to - 1)) {
                return 2;
            }
            return 0;
        }

        int step(int p, int by) {
            if (!isPerson(p)) {
                return 1;
            }
            int to = place.get(p) + by;
            if (whyNotMove(p, to) != 0) {
                return 2;
            }
            if (to >= 1 && to <= planks && !may(p, to - 1)) {
                return 3;
            }
            for (int q = 0; q < people; q++) {
                if (owes(p, q) > 0 && owes(q, p) > 0 && place.get(q) != -1) {
                    return 4;
                }
            }
            place.set(p, to);
            look();
            return 0;
        }

        int hand(int p, int q) {
            if (!isPerson(p) || !isPerson(q) || p == q) {
                return 1;
            }
            int to = place.get(p) + 1;
            if (whyNotMove(p, to) != 0 || whyNotMove(q, place.get(q) + 1) != 0 || !place.get(p).equals(place.get(q))) {
                return 2;
            }
            if (to >= 1 && to <= planks && !(may(p, to - 1) && may(q, to - 1))) {
                return 3;
            }
            place.set(p, to);
            place.set(q, to);
            look();
            return 0;
        }

        int tear(int p, int q) {
            if (!isPerson(p) || !isPerson(q) || p == q) {
                return 1;
            }
            if (paper.remove(10 * p + q) == null) {
                return 2;
            }
            look();
            return 0;
        }

        int mend(int k) {
            if (k < 0 || k >= planks) {
                return 1;
            }
            if (!broken.remove(k)) {
                if (mended.get(k) >= 99) {
                    return 2;
                }
                mended.set(k, mended.get(k) + 1);
            }
            look();
            return 0;
        }

        int deed(long v) {
            if (v == -1) {
                passDay();
                return 0;
            }
            int w = (int) v;
            if (v >= 0 && v <= 9) {
                return step(w, 1);
            }
            if (v >= 10 && v <= 19) {
                return step(w - 10, -1);
            }
            if (v >= 100 && v <= 199) {
                return hand((w - 100) / 10, w % 10);
            }
            if (v >= 200 && v <= 299) {
                return tear((w - 200) / 10, w % 10);
            }
            return v >= 300 && v <= 309 ? mend(w - 300) : 1;
        }

        /** Walks over with nobody else there; the plank that stops it, or -1. */
        int alone(int p) {
            Sight s = twin();
            for (int q = 0; q < people; q++) {
                s.place.set(q, 0);
            }
            for (int k = 0; k < planks; k++) {
                if (s.broken.contains(k) || !s.may(p, k)) {
                    return k;
                }
                s.place.set(p, k + 1);
                List<Integer> gone = s.look();
                if (!gone.isEmpty()) {
                    return gone.get(0);
                }
            }
            return -1;
        }

        int able() {
            int bits = 0;
            for (int p = 0; p < people; p++) {
                bits |= alone(p) == -1 ? 1 << p : 0;
            }
            return bits;
        }

        /** Walks people over, each so many steps behind the first. */
        int walk(List<Integer> who, List<Integer> lag) {
            Sight s = twin();
            for (int q = 0; q < people; q++) {
                s.place.set(q, 0);
            }
            int[] weights = weights();
            for (int step = 1; step <= planks + 1 + lag.get(lag.size() - 1); step++) {
                for (int i = 0; i < who.size(); i++) {
                    s.place.set(who.get(i), Math.max(0, Math.min(planks + 1, step - lag.get(i))));
                }
                for (int k = 0; k < planks; k++) {
                    boolean comes = s.place.contains(k + 1);
                    if (s.broken.contains(k) ? comes : s.load(k, weights) > s.bears(k)) {
                        return k;
                    }
                }
            }
            return -1;
        }
    }

    // ---- reading

    static List<Token> tokens(String text) {
        List<Token> all = new ArrayList<>();
        int i = 0;
        while (i < text.length()) {
            char c = text.charAt(i);
            int j = i + 1;
            if (c == ' ' || c == '\n') {
                i++;
                continue;
            }
            boolean wrong = false;
            if (c >= 'a' && c <= 'z') {
                while (j < text.length() && text.charAt(j) >= 'a' && text.charAt(j) <= 'z') {
                    j++;
                }
            } else if (c >= '0' && c <= '9') {
                while (j < text.length() && text.charAt(j) >= '0' && text.charAt(j) <= '9') {
                    j++;
                }
                wrong = j - i > 3;
            } else {
                wrong = ";:+-*()[]=<>".indexOf(c) < 0;
            }
            all.add(new Token(text.substring(i, j), i, wrong));
            i = j;
        }
        all.add(new Token("", text.length(), false));
        return all;
    }

    static final class Parser {
        final List<Token> tokens;
        int at = 0;
        Set<String> words = Set.of();
        final Sight s = new Sight();

        Parser(String text) {
            tokens = tokens(text);
        }

        Token now() {
            Token t = tokens.get(at);
            if (t.wrong) {
                throw new Fault(1, t.place);
            }
            return t;
        }

        boolean eat(String word) {
            if (now().text.equals(word)) {
                at++;
                return true;
            }
            return false;
        }

        void need(String word) {
            if (!eat(word)) {
                throw new Fault(2, now().place);
            }
        }

        int number(int least, int most, int not) {
            Token t = now();
            if (!t.isNumber()) {
                throw new Fault(2, t.place);
            }
            int n = Integer.parseInt(t.text);
            if (n < least || n > most || n == not) {
                throw new Fault(3, t.place);
            }
            at++;
            return n;
        }

        Sight read() {
            need("planks");
            s.planks = number(1, 8, -1);
            need("bear");
            int all = number(0, 999, -1);
            s.bears.clear();
            s.mended.clear();
            for (int k = 0; k < s.planks; k++) {
                s.bears.add(all);
                s.mended.add(0);
            }
            need(";");
            s.lines = 1;
            while (!now().text.isEmpty()) {
                line();
                need(";");
                s.lines++;
            }
            s.look();
            return s;
        }

        void line() {
            Token t = now();
            switch (t.text) {
                case "plank" -> {
                    at++;
                    int k = number(0, s.planks - 1, -1);
                    need("bears");
                    s.bears.set(k, number(0, 999, -1));
                }
                case "person" -> {
                    if (s.people == 6) {
                        throw new Fault(4, t.place);
                    }
                    at++;
                    int place = 0;
                    while (eat("at")) {
                        place = number(0, s.planks + 1, -1);
                    }
                    s.place.add(place);
                    s.people++;
                }
                case "owes" -> {
                    at++;
                    int p = number(0, s.people - 1, -1);
                    need("to");
                    int q = number(0, s.people - 1, p);
                    need("of");
                    s.paper.put(10 * p + q, number(1, 99, -1));
                }
                case "weighs" -> {
                    at++;
                    need(":");
                    words = Set.of("who", "day", "snow", "debt", "papers", "owed");
                    s.weighs = sum(0);
                }
                case "lets" -> {
                    at++;
                    need(":");
                    words = Set.of("who", "day", "snow", "plank", "weight", "others");
                    s.lets = truth(0);
                }
                case "snowy" -> {
                    at++;
                    s.snowy = number(0, 10, -1);
                }
                case "day" -> {
                    at++;
                    s.day = number(0, 999, -1);
                }
                default -> throw new Fault(2, t.place);
            }
        }

        ToIntFunction<Known> truth(int depth) {
            ToIntFunction<Known> left = both(depth);
            while (eat("or")) {
                ToIntFunction<Known> a = left;
                ToIntFunction<Known> b = both(depth);
                left = known -> a.applyAsInt(known) == 1 || b.applyAsInt(known) == 1 ? 1 : 0;
            }
            return left;
        }

        ToIntFunction<Known> both(int depth) {
            ToIntFunction<Known> left = unit(depth);
            while (eat("and")) {
                ToIntFunction<Known> a = left;
                ToIntFunction<Known> b = unit(depth);
                left = known -> a.applyAsInt(known) == 1 && b.applyAsInt(known) == 1 ? 1 : 0;
            }
            return left;
        }

        void deeper(int depth) {
            if (depth == 6) {
                throw new Fault(4, now().place);
            }
        }

        ToIntFunction<Known> unit(int depth) {
            if (now().text.equals("not")) {
                deeper(depth);
                at++;
                ToIntFunction<Known> a = unit(depth + 1);
                return known -> a.applyAsInt(known) == 1 ? 0 : 1;
            }
            if (now().text.equals("[")) {
                deeper(depth);
                at++;
                ToIntFunction<Known> a = truth(depth + 1);
                need("]");
                return a;
            }
            ToIntFunction<Known> a = sum(depth);
            String sign = now().text;
            if (!sign.equals("=") && !sign.equals("<") && !sign.equals(">")) {
                throw new Fault(2, now().place);
            }
            at++;
            ToIntFunction<Known> b = sum(depth);
            return known -> {
                int difference = Integer.compare(a.applyAsInt(known), b.applyAsInt(known));
                return difference == (sign.equals("=") ? 0 : sign.equals("<") ? -1 : 1) ? 1 : 0;
            };
        }

        static int kept(long v) {
            return v > 1000000 ? 1000000 : v < -1000000 ? -1000000 : (int) v;
        }

        ToIntFunction<Known> sum(int depth) {
            ToIntFunction<Known> left = term(depth);
            while (now().text.equals("+") || now().text.equals("-")) {
                int sign = eat("+") ? 1 : -1;
                if (sign == -1) {
                    at++;
                }
                ToIntFunction<Known> a = left;
                ToIntFunction<Known> b = term(depth);
                left = known -> kept((long) a.applyAsInt(known) + (long) sign * b.applyAsInt(known));
            }
            return left;
        }

        ToIntFunction<Known> term(int depth) {
            ToIntFunction<Known> left = atom(depth);
            while (eat("*")) {
                ToIntFunction<Known> a = left;
                ToIntFunction<Known> b = atom(depth);
                left = known -> kept((long) a.applyAsInt(known) * b.applyAsInt(known));
            }
            return left;
        }

        ToIntFunction<Known> atom(int depth) {
            Token t = now();
            if (t.text.equals("(")) {
                deeper(depth);
                at++;
                ToIntFunction<Known> a = sum(depth + 1);
                need(")");
                return a;
            }
            if (t.isNumber()) {
                int n = number(0, 999, -1);
                return known -> n;
            }
            if (!words.contains(t.text)) {
                throw new Fault(2, t.place);
            }
            at++;
            return known -> known.words().get(t.text);
        }
    }

    // ---- the face

    Sight s = new Sight();
    final StringBuilder tape = new StringBuilder();
    final ArrayDeque<Sight> past = new ArrayDeque<>();
    final long[][] trays = new long[4][];
    final int[] sorts = new int[4];
    final Sight[] images = new Sight[2];
    int faultKind = 0;
    int faultPlace = -1;

    int feed(int... five) {
        if (tape.length() + 20 > 900) {
            return -5;
        }
        for (int four : five) {
            for (int i = 3; i >= 0; i--) {
                tape.append((char) (four >> 8 * i & 255));
            }
        }
        return tape.length();
    }

    int bridge(int n) {
        if (n < 0 || n > tape.length()) {
            return -3;
        }
        String text = tape.substring(0, n);
        tape.setLength(0);
        try {
            s = new Parser(text).read();
            past.clear();
            faultKind = 0;
            faultPlace = -1;
            return s.lines;
        } catch (Fault f) {
            faultKind = f.kind;
            faultPlace = f.place;
            return -30 - f.kind;
        }
    }

    int fault(int what) {
        return what == 0 ? faultKind : what == 1 ? faultPlace : -1;
    }

    int person(int p, int what) {
        if (!s.isPerson(p) || what < 0 || what > 4) {
            return -2;
        }
        return List.of(s.place.get(p), s.debt(p), s.papers(p), s.owed(p), s.weight(p)).get(what);
    }

    int owes(int p, int q) {
        return s.isPerson(p) && s.isPerson(q) ? s.owes(p, q) : -2;
    }

    int plank(int k, int what) {
        if (k < 0 || k >= s.planks || what < 0 || what > 3) {
            return -2;
        }
        return List.of(s.bears(k), s.load(k, s.weights()), s.broken.contains(k) ? 1 : 0, s.mended.get(k)).get(what);
    }

    int seed(int n) {
        keep(s.twin());
        int was = s.x;
        s.x = n;
        return was;
    }

    private void keep(Sight before) {
        past.addLast(before);
        if (past.size() > 10) {
            past.removeFirst();
        }
    }

    private int done(Sight before, int why, int answer) {
        if (why != 0) {
            return -10 - why;
        }
        keep(before);
        return answer;
    }

    int step(int p, boolean east) {
        Sight before = s.twin();
        int why = s.step(p, east ? 1 : -1);
        return done(before, why, why == 0 ? s.place.get(p) : 0);
    }

    int hand(int p, int q) {
        Sight before = s.twin();
        int why = s.hand(p, q);
        return done(before, why, why == 0 ? s.place.get(p) : 0);
    }

    int tear(int p, int q) {
        Sight before = s.twin();
        return done(before, s.tear(p, q), before.owes(p, q));
    }

    private int tray(int t) {
        return t < 0 || t > 3 ? -2 : trays[t] == null ? -6 : 0;
    }

    private List<Integer> people(long[] tray) {
        List<Integer> all = new ArrayList<>();
        for (long v : tray) {
            if (!s.isPerson(v) || all.contains((int) v)) {
                return null;
            }
            all.add((int) v);
        }
        return all;
    }

    int cancel(int t) {
        if (tray(t) != 0) {
            return tray(t);
        }
        List<Integer> ring = people(trays[t]);
        if (ring == null || ring.size() < 2) {
            return -11;
        }
        int least = 100;
        for (int i = 0; i < ring.size(); i++) {
            least = Math.min(least, s.owes(ring.get(i), ring.get((i + 1) % ring.size())));
        }
        if (least == 0) {
            return -12;
        }
        keep(s.twin());
        for (int i = 0; i < ring.size(); i++) {
            int key = 10 * ring.get(i) + ring.get((i + 1) % ring.size());
            s.paper.put(key, s.paper.get(key) - least);
            s.paper.remove(key, 0);
        }
        s.look();
        return least;
    }

    int mend(int k) {
        Sight before = s.twin();
        int why = s.mend(k);
        return done(before, why, why == 0 ? s.bears(k) : 0);
    }

    int days(int n) {
        if (n < 1 || n > 99) {
            return -3;
        }
        keep(s.twin());
        int snowed = 0;
        for (int i = 0; i < n; i++) {
            s.passDay();
            snowed += s.snow ? 1 : 0;
        }
        return snowed;
    }

    int undo(int n) {
        if (n < 1 || n > past.size()) {
            return -3;
        }
        for (int i = 0; i < n; i++) {
            s = past.removeLast();
        }
        return past.size();
    }

    private int bits(Sight w, int place) {
        int bits = 0;
        for (int p = 0; p < w.people; p++) {
            bits |= w.place.get(p) == place ? 1 << p : 0;
        }
        return bits;
    }

    int judge(int t, int what) {
        if (tray(t) == -2 || what < 0 || what > 3) {
            return -2;
        }
        if (tray(t) != 0) {
            return tray(t);
        }
        Sight w = s.twin();
        int at = -1;
        int why = 0;
        for (int i = 0; i < trays[t].length && at == -1; i++) {
            why = w.deed(trays[t][i]);
            at = why == 0 ? -1 : i;
        }
        return List.of(at, why, bits(w, -1), bits(w, w.planks + 1)).get(what);
    }

    int perform(int t) {
        if (tray(t) != 0) {
            return tray(t);
        }
        Sight before = s.twin();
        int many = 0;
        while (many < trays[t].length && s.deed(trays[t][many]) == 0) {
            many++;
        }
        if (many > 0) {
            keep(before);
        }
        return many;
    }

    int season(int seed, int times) {
        if (times < 1 || times > 40) {
            return -3;
        }
        Sight before = s.twin();
        s.x = seed;
        int many = 0;
        for (int i = 0; i < times; i++) {
            int which = s.draw() % 6;
            int v = -1;
            if (which >= 1) {
                v = s.draw() % 6;
            }
            if (which >= 4) {
                v = (which == 4 ? 100 : 200) + 10 * v + s.draw() % 6;
            }
            many += s.deed(v) == 0 ? 1 : 0;
        }
        if (many > 0) {
            keep(before);
        } else {
            s = before;
        }
        return many;
    }

    int alone(int p) {
        return s.isPerson(p) ? s.alone(p) : -2;
    }

    int able() {
        return s.able();
    }

    int tears(int p, int what) {
        if (!s.isPerson(p) || what < 0 || what > 1) {
            return -2;
        }
        for (int many = 0; many <= 6; many++) {
            for (int set = 0; set < 64; set++) {
                Sight w = s.twin();
                boolean own = Integer.bitCount(set) == many;
                for (int q = 0; q < 6; q++) {
                    if ((set & 1 << q) != 0) {
                        own &= w.paper.remove(10 * p + q) != null;
                    }
                }
                if (own && w.alone(p) == -1) {
                    return what == 0 ? many : set;
                }
            }
        }
        return -1;
    }

    private List<Integer> upTo(int n) {
        List<Integer> all = new ArrayList<>();
        for (int i = 0; i < n; i++) {
            all.add(i);
        }
        return all;
    }

    int row(int t) {
        if (tray(t) != 0) {
            return tray(t);
        }
        if (trays[t].length < 1 || trays[t].length > 6) {
            return -4;
        }
        List<Integer> row = people(trays[t]);
        return row == null ? -3 : s.walk(row, upTo(row.size()));
    }

    /** All orders of a set, the first by its people first. */
    static List<List<Integer>> permutations(int set) {
        List<List<Integer>> all = new ArrayList<>();
        if (set == 0) {
            all.add(List.of());
        }
        for (int p = 0; p < 6; p++) {
            if ((set & 1 << p) != 0) {
                for (List<Integer> rest : permutations(set & ~(1 << p))) {
                    List<Integer> one = new ArrayList<>(List.of(p));
                    one.addAll(rest);
                    all.add(one);
                }
            }
        }
        return all;
    }

    private List<List<Integer>> over(int set) {
        List<List<Integer>> good = new ArrayList<>();
        for (List<Integer> one : permutations(set)) {
            if (s.walk(one, upTo(one.size())) == -1) {
                good.add(one);
            }
        }
        return good;
    }

    int order(int set, int i) {
        if (set <= 0 || set >= 1 << s.people || i < 0) {
            return -3;
        }
        List<List<Integer>> good = over(set);
        return good.isEmpty() || i >= good.get(0).size() ? -1 : good.get(0).get(i);
    }

    int orders(int set) {
        return set <= 0 || set >= 1 << s.people ? -3 : over(set).size();
    }

    int apart(int p, int q) {
        if (!s.isPerson(p) || !s.isPerson(q) || p == q) {
            return -2;
        }
        for (int gap = 0; gap <= 8; gap++) {
            if (s.walk(List.of(p, q), List.of(0, gap + 1)) == -1) {
                return gap;
            }
        }
        return -1;
    }

    int net(int p) {
        return s.isPerson(p) ? s.owed(p) - s.debt(p) : -99000002;
    }

    int coin() {
        int sum = 0;
        for (int p = 0; p < s.people; p++) {
            sum += net(p) > 0 ? net(p) : 0;
        }
        return sum;
    }

    /** Settles the first that isn't with each of those it can be, whole. */
    private static int settle(int[] nets, int from) {
        int i = from;
        while (i < nets.length && nets[i] == 0) {
            i++;
        }
        if (i == nets.length) {
            return 0;
        }
        int best = 100;
        for (int j = i + 1; j < nets.length; j++) {
            if ((long) nets[i] * nets[j] < 0) {
                nets[j] += nets[i];
                best = Math.min(best, 1 + settle(nets, i + 1));
                nets[j] -= nets[i];
            }
        }
        return best;
    }

    int settles() {
        int[] nets = new int[s.people];
        for (int p = 0; p < s.people; p++) {
            nets[p] = net(p);
        }
        return settle(nets, 0);
    }

    private List<List<Integer>> allRings() {
        List<List<Integer>> all = new ArrayList<>();
        for (int set = 1; set < 1 << s.people; set++) {
            for (List<Integer> one : permutations(set)) {
                boolean ring = one.size() >= 2 && one.get(0) == Integer.numberOfTrailingZeros(set);
                for (int i = 0; i < one.size() && ring; i++) {
                    ring = s.owes(one.get(i), one.get((i + 1) % one.size())) > 0;
                }
                if (ring) {
                    all.add(one);
                }
            }
        }
        all.sort((a, b) -> {
            for (int i = 0; i < a.size() && i < b.size(); i++) {
                if (!a.get(i).equals(b.get(i))) {
                    return a.get(i) - b.get(i);
                }
            }
            return a.size() - b.size();
        });
        return all;
    }

    int rings() {
        return allRings().size();
    }

    int ring(int what) {
        if (what != 0 && what != 1 && (what < 10 || what > 15)) {
            return -2;
        }
        List<Integer> best = null;
        int most = 0;
        for (List<Integer> one : allRings()) {
            int least = 100;
            for (int i = 0; i < one.size(); i++) {
                least = Math.min(least, s.owes(one.get(i), one.get((i + 1) % one.size())));
            }
            if (least * one.size() > most) {
                most = least * one.size();
                best = one;
            }
        }
        if (best == null) {
            return -1;
        }
        return what == 0 ? most : what == 1 ? best.size() : what - 10 < best.size() ? best.get(what - 10) : -1;
    }

    int heaviest() {
        int best = -1;
        for (int p = s.people - 1; p >= 0; p--) {
            if (best == -1 || s.weight(p) >= s.weight(best)) {
                best = p;
            }
        }
        return best;
    }

    int forgive() {
        int best = -1;
        int most = Integer.bitCount(s.able());
        for (int key = 0; key < 60; key++) {
            Sight w = s.twin();
            if (w.paper.remove(key) != null && Integer.bitCount(w.able()) > most) {
                most = Integer.bitCount(w.able());
                best = key;
            }
        }
        return best;
    }

    /** Mends one plank after another, each till one could go over it: how often each; null: none. */
    private int[] mending(List<Integer> who) {
        int[] many = new int[s.planks];
        Sight w = s.twin();
        for (int q = 0; q < w.people; q++) {
            w.place.set(q, 0);
        }
        for (int p : who) {
            int stop = w.alone(p);
            while (stop != -1) {
                if (!w.may(p, stop) || w.mend(stop) != 0) {
                    return null;
                }
                many[stop]++;
                stop = w.alone(p);
            }
        }
        return many;
    }

    private static int total(int[] many) {
        int sum = 0;
        for (int one : many) {
            sum += one;
        }
        return sum;
    }

    int mends(int p) {
        if (!s.isPerson(p)) {
            return -2;
        }
        int[] many = mending(List.of(p));
        return many == null ? -1 : total(many);
    }

    int mendsAt(int p, int k) {
        if (!s.isPerson(p) || k < 0 || k >= s.planks) {
            return -2;
        }
        int[] many = mending(List.of(p));
        return many == null ? -1 : many[k];
    }

    int mendsAll() {
        int[] many = mending(upTo(s.people));
        return many == null ? -1 : total(many);
    }

    private int seen(int t) {
        return tray(t) != 0 ? tray(t) : trays[t].length != s.people ? -4 : 0;
    }

    private List<Integer> candidates(int t) {
        List<Integer> all = new ArrayList<>();
        for (int key = 0; key < 60; key++) {
            Sight w = s.twin();
            boolean fits = w.paper.remove(key) != null;
            for (int p = 0; p < s.people; p++) {
                fits &= trays[t][p] == -1 || trays[t][p] == w.weight(p);
            }
            if (fits) {
                all.add(key);
            }
        }
        return all;
    }

    int torn(int t) {
        return seen(t) != 0 ? seen(t) : candidates(t).size();
    }

    int tornAt(int t, int k) {
        if (seen(t) != 0) {
            return seen(t);
        }
        if (k < 0) {
            return -3;
        }
        List<Integer> all = candidates(t);
        return k < all.size() ? all.get(k) : -1;
    }

    int weighed(int t) {
        if (seen(t) != 0) {
            return seen(t);
        }
        int best = -1;
        int least = 1000;
        for (int p = 0; p < s.people; p++) {
            Map<Integer, Integer> alike = new HashMap<>();
            for (int key : candidates(t)) {
                Sight w = s.twin();
                w.paper.remove(key);
                alike.merge(w.weight(p), 1, Integer::sum);
            }
            int most = alike.values().stream().mapToInt(v -> v).max().orElse(1000);
            if (most < least) {
                least = most;
                best = p;
            }
        }
        return best;
    }

    /** How likely, in parts of ten to the n: all ways in which it can snow, one by one. */
    private long lucky(int p, int n) {
        boolean[][] over = new boolean[n][2];
        for (int i = 0; i < n; i++) {
            for (int snow = 0; snow < 2; snow++) {
                Sight w = s.twin();
                w.day = s.day + i + 1;
                w.snow = snow == 1;
                over[i][snow] = w.alone(p) == -1;
            }
        }
        long sum = 0;
        for (int ways = 0; ways < 1 << n; ways++) {
            long one = 1;
            boolean got = false;
            for (int i = 0; i < n; i++) {
                int snow = ways >> i & 1;
                one *= snow == 1 ? s.snowy : 10 - s.snowy;
                got |= over[i][snow];
            }
            sum += got ? one : 0;
        }
        return sum;
    }

    long chance(int p, int n, int what) {
        if (!s.isPerson(p) || what < 0 || what > 1) {
            return -2;
        }
        if (n < 0 || n > 15) {
            return -3;
        }
        BigInteger above = BigInteger.valueOf(lucky(p, n));
        BigInteger below = BigInteger.TEN.pow(n);
        BigInteger part = above.gcd(below);
        return (what == 0 ? above : below).divide(part).longValueExact();
    }

    int likely(int p, int m) {
        if (!s.isPerson(p)) {
            return -2;
        }
        if (m < 0 || m > 100) {
            return -3;
        }
        for (int n = 0; n <= 15; n++) {
            BigInteger need = BigInteger.TEN.pow(n).multiply(BigInteger.valueOf(m));
            if (BigInteger.valueOf(lucky(p, n)).multiply(BigInteger.valueOf(100)).compareTo(need) >= 0) {
                return n;
            }
        }
        return -1;
    }

    int numbers(int t, int sort, int n) {
        if (t < 0 || t > 3 || sort < 0 || sort > 3) {
            return -2;
        }
        if (n < 0 || n > 40) {
            return -3;
        }
        trays[t] = new long[n];
        sorts[t] = sort;
        return 0;
    }

    long write(int t, int i, long v) {
        if (tray(t) != 0) {
            return tray(t);
        }
        if (i < 0 || i >= trays[t].length) {
            return -7;
        }
        int bits = 64 - (8 << sorts[t]);
        trays[t][i] = v << bits >> bits;
        return trays[t][i];
    }

    int lists(int t) {
        if (tray(t) != 0) {
            return tray(t);
        }
        int many = 0;
        for (int p = 0; p < s.people && p < trays[t].length; p++) {
            write(t, p, s.weight(p));
            many++;
        }
        return many;
    }

    int image(int i) {
        if (i < 0 || i > 1) {
            return -2;
        }
        images[i] = s.twin();
        return 0;
    }

    int restore(int i) {
        if (i < 0 || i > 1) {
            return -2;
        }
        if (images[i] == null) {
            return -5;
        }
        s = images[i].twin();
        past.clear();
        return 0;
    }

    int count(int what) {
        int onPlanks = 0;
        for (int k = 1; k <= s.planks; k++) {
            onPlanks |= bits(s, k);
        }
        int debts = s.paper.values().stream().mapToInt(v -> v).sum();
        int broken = s.broken.stream().mapToInt(k -> 1 << k).sum();
        int[] all = {s.planks, s.people, bits(s, -1), bits(s, s.planks + 1), onPlanks, s.paper.size(), debts,
            broken, s.day, s.snow ? 1 : 0, past.size(), tape.length(), s.lines};
        return what < 0 || what > 12 ? -1 : all[what];
    }
}
