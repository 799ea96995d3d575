/** Deeds told in trays and seasons: their terms, and promises 16 to 18. */
final class TrayDeedEdges {
    private static final int TERMS = Edge.TERMS;
    private static final int LOW = Integer.MIN_VALUE;
    private static final int HIGH = Integer.MAX_VALUE;
    private static final String SIX = "person;person;person;person;person;person;";

    private final Edge e;

    private TrayDeedEdges(Edge e) {
        this.e = e;
    }

    static void run(Edge e) {
        TrayDeedEdges t = new TrayDeedEdges(e);
        t.steps();
        t.pairs();
        t.others();
        t.judge();
        t.judgeRefused();
        t.perform();
        t.season();
        t.seasonDraws();
    }

    /** What one deed does to a new bridge: the why, or else what could be seen of it then. */
    private String done(String text, long v) {
        DebtBridge x = Bench.told(text);
        Bench.fill(x, 0, v);
        int why = x.judge(0, 1);
        int many = x.perform(0);
        e.due("it is judged as it is done: " + v, many, why == 0 ? 1 : 0);
        return why != 0 ? "why " + why : Sight.ofState(x);
    }

    private static String seen(String text, java.util.function.Consumer<DebtBridge> deed) {
        DebtBridge x = Bench.told(text);
        deed.accept(x);
        return Sight.ofState(x);
    }

    private void steps() {
        e.says(TERMS, "DEEDS in a TRAY: 0 to 9: PERSON v STEPS east, 10 to 19: v - 10 STEPS west;");
        String text = "planks 2 bear 9;person at 1;person at 1;person at 1;person at 1;person at 1;person at 1;weighs:0;";
        for (int p = 0; p < 6; p++) {
            int who = p;
            e.holds(p + " east", done(text, p).equals(seen(text, x -> x.step(who, true))));
            e.holds(p + " west", done(text, 10 + p).equals(seen(text, x -> x.step(who, false))));
        }
        for (int v : new int[] {6, 9, 16, 19}) {
            e.holds("no such person: " + v, done(text, v).equals("why 1"));
        }
    }

    private void pairs() {
        e.says(TERMS, "100 to 199: HAND IN HAND (v - 100) by 10 and v modulo 10;");
        String text = "planks 2 bear 99;" + SIX + "owes 0 to 5 of 3;owes 5 to 0 of 4;owes 4 to 5 of 7;owes 3 to 2 of 1;";
        for (int v = 100; v <= 199; v++) {
            int p = v / 10 % 10;
            int q = v % 10;
            boolean can = p < 6 && q < 6 && p != q;
            e.holds("" + v, done(text, v).equals(can ? seen(text, x -> x.hand(p, q)) : "why 1"));
        }
        e.says(TERMS, "200 to 299: the paper of (v - 200) by 10 to v modulo 10 is TORN;");
        for (int v = 200; v <= 299; v++) {
            int p = v / 10 % 10;
            int q = v % 10;
            boolean can = p < 6 && q < 6 && p != q;
            boolean owes = v == 205 || v == 250 || v == 245 || v == 232;
            String due = !can ? "why 1" : owes ? seen(text, x -> x.tear(p, q)) : "why 2";
            e.holds("" + v, done(text, v).equals(due));
        }
        e.says(TERMS, "300 to 309: PLANK v - 300 is MENDED;");
        String eight = "planks 8 bear 9;plank 3 bears 0;person at 4;weighs:1;";
        for (int v = 300; v <= 309; v++) {
            int k = v - 300;
            e.holds("" + v, done(eight, v).equals(k < 8 ? seen(eight, x -> x.mend(k)) : "why 1"));
        }
    }

    private void others() {
        e.says(TERMS, "NONE: a DAY; others: 1.");
        String text = "planks 2 bear 9;" + SIX + "snowy 7;";
        e.holds("a day", done(text, -1).equals(seen(text, x -> x.days(1))));
        for (long v : new long[] {-2, 20, 21, 50, 99, 310, 311, 400, 1000, LOW, HIGH, Long.MIN_VALUE, Long.MAX_VALUE, 1L << 32,
            (1L << 32) + 100, (1L << 32) - 1, -1L - (1L << 32), 0xffffffffL}) {
            e.holds("" + v, done(text, v).equals("why 1"));
        }
    }

    private void judge() {
        e.says(16, "DEEDS, judged as if done (and DRAWN),");
        DebtBridge x = Bench.told("planks 2 bear 9;person;person;owes 0 to 1 of 30;owes 1 to 0 of 2;snowy 6;weighs:debt+snow;");
        x.seed(5);
        Bench.fill(x, 0, -1, 300, 210, 0, -1, 1);
        Bench.fill(x, 1, -1, 300, 210, 0, -1, 1);
        String before = Sight.ofState(x);
        e.due("the last of them can't be", x.judge(0, 0), 5);
        e.holds("nothing changes", Sight.ofState(x).equals(before));
        e.due("not x", Bench.drawn(x), 5);
        e.due("nothing can be undone of it", x.count(10), 1);
        // the first day from x 0 snows with snowy 1, the second doesn't: drawn one behind the other
        x = Bench.told("planks 1 bear 4;person;weighs:snow*5;snowy 1;");
        Bench.fill(x, 0, -1, 0);
        e.due("drawn: it snows", x.judge(0, 2), 1);
        Bench.fill(x, 0, -1, -1, 0, 0);
        e.due("drawn again: it doesn't", x.judge(0, 3), 1);
        x.days(1);
        Bench.fill(x, 0, -1, 0);
        e.due("from x as it is", x.judge(0, 2), 0);
        e.says(16, "what 0: the first place that can't be (NONE), 1: why (0),");
        x = Bench.told("planks 1 bear 4;person;person at 2;person at 2;weighs:who*9;");
        Bench.fill(x, 0);
        e.due("no deeds: place", x.judge(0, 0), -1);
        e.due("no deeds: why", x.judge(0, 1), 0);
        Bench.fill(x, 0, 0, 0);
        e.due("all can be: place", x.judge(0, 0), -1);
        e.due("all can be: why", x.judge(0, 1), 0);
        Bench.fill(x, 0, 20, 1);
        e.due("the first: place", x.judge(0, 0), 0);
        e.due("the first: why", x.judge(0, 1), 1);
        Bench.fill(x, 0, 0, 0, 0, 20);
        e.due("the first that can't be", x.judge(0, 0), 2);
        e.due("its why", x.judge(0, 1), 2);
        Bench.fill(x, 0);
        e.due("no deeds behind one that can't be: why", x.judge(0, 1), 0);
        long[] most = new long[40];
        java.util.Arrays.fill(most, -1);
        Bench.fill(x, 0, most);
        e.due("40 that can be", x.judge(0, 0), -1);
        most[39] = 99;
        Bench.fill(x, 0, most);
        e.due("the 40th can't", x.judge(0, 0) * 10 + x.judge(0, 1), 391);
        e.says(16, "2: who is FALLEN then, as bits, 3: who is on the east bank then, as bits.");
        Bench.fill(x, 0);
        e.due("as now: nobody fell", x.judge(0, 2), 0);
        e.due("as now: two are east", x.judge(0, 3), 6);
        Bench.fill(x, 0, 0, 0, 11, 20, 12);
        e.due("1 falls, nothing behind what can't be", x.judge(0, 2), 2);
        e.due("0 came over, 1 went", x.judge(0, 3), 5);
    }

    private void judgeRefused() {
        e.says(16, "-2: the TRAY, what; -6.");
        DebtBridge x = Bench.told("planks 1 bear 4;person;");
        for (int tray : new int[] {-1, 4, LOW, HIGH}) {
            e.due("no tray " + tray, x.judge(tray, 0), -2);
        }
        for (int what : new int[] {-1, 4, LOW, HIGH}) {
            e.due("what " + what + " ahead of missing", x.judge(0, what), -2);
        }
        for (int tray = 0; tray < 4; tray++) {
            e.due("missing " + tray, x.judge(tray, 3), -6);
        }
        Bench.fill(x, 0, 0);
        e.due("what -1", x.judge(0, -1), -2);
        e.due("what 4", x.judge(0, 4), -2);
    }

    private void perform() {
        e.says(17, "They are done, till one can't be: how many.");
        DebtBridge x = Bench.told("planks 1 bear 4;person;person;snowy 5;");
        Bench.fill(x, 0);
        e.due("no deeds", x.perform(0), 0);
        Bench.fill(x, 0, 99, -1);
        e.due("the first can't be", x.perform(0), 0);
        e.due("nothing is done", x.count(8) + x.count(10), 0);
        e.due("not x", Bench.drawn(x), 0);
        Bench.fill(x, 0, -1, 0, 0, 0, 1);
        e.due("three", x.perform(0), 3);
        e.due("the fifth isn't done", x.person(1, 0), 0);
        e.due("one call", x.count(10), 1);
        e.due("undone as a whole", x.undo(1) + x.count(8) + x.person(0, 0), 0);
        Bench.fill(x, 0, -1, 99);
        e.due("one alone", x.perform(0), 1);
        e.due("one call", x.count(10), 1);
        e.due("undone", x.undo(1) + x.count(8), 0);
        x.numbers(0, 3, 40);
        for (int i = 0; i < 40; i++) {
            x.write(0, i, i % 2 == 0 ? 0 : 10);
        }
        e.due("40", x.perform(0), 40);
        e.says(17, "-2; -6.");
        for (int tray : new int[] {-1, 4, LOW, HIGH}) {
            e.due("no tray " + tray, x.perform(tray), -2);
        }
        e.due("missing 1", x.perform(1), -6);
        e.due("missing 3", x.perform(3), -6);
    }

    private static int drawn(int x, int times) {
        int drawn = x;
        for (int i = 0; i < times; i++) {
            drawn = 1103515245 * drawn + 12345;
        }
        return drawn;
    }

    private static int sixth(int seed, int i) {
        return (drawn(seed, i) >>> 16) % 6;
    }

    private void season() {
        e.says(TERMS, "A SEASON by a SEED (x is that): so many times (1 to 40):");
        DebtBridge x = Bench.told("planks 1 bear 9;snowy 5;");
        e.due("40 times: only days can be", x.season(1, 40), x.count(8));
        int seed = 0;
        while (sixth(seed, 1) != 0) {
            seed++;
        }
        x = Bench.told("planks 1 bear 9;snowy 5;");
        e.due("once", x.season(seed, 1), 1);
        e.due("a day", x.count(8), 1);
        e.due("x is drawn from the seed, twice", Bench.drawn(x), drawn(seed, 2));
        e.says(18, "A SEASON: how many could be (0: nothing changes, x neither).");
        x = Bench.told("planks 1 bear 9;person;snowy 5;");
        x.seed(88);
        // a seed by which the first two are steps, or papers, of those who aren't
        int none = 0;
        while (sixth(none, 1) == 0 || sixth(none, 1) > 3 || sixth(none, 2) == 0 || sixth(none, 3) == 0 || sixth(none, 3) > 3
            || sixth(none, 4) == 0) {
            none++;
        }
        String before = Sight.ofState(x);
        e.due("none could be", x.season(none, 2), 0);
        e.holds("nothing changes", Sight.ofState(x).equals(before));
        e.due("nothing can be undone of it", x.count(10), 1);
        e.due("x neither", Bench.drawn(x), 88);
        e.due("one could be", x.season(seed, 1), 1);
        e.due("one call", x.count(10), 2);
        e.due("undone", x.undo(1), 1);
        e.due("x as it was", Bench.drawn(x), 88);
        e.says(18, "-3: how many times.");
        for (int times : new int[] {0, -1, 41, LOW, HIGH}) {
            e.due(times + " times", x.season(seed, times), -3);
        }
        e.due("nothing was done", x.count(8), 0);
    }

    private void seasonDraws() {
        e.says(TERMS, "DRAW modulo 6: 0 a DAY; 1, 2, 3 PERSON DRAW modulo 6 STEPS east; 4 HAND IN HAND DRAW modulo 6 and DRAW modulo 6; "
            + "5 the paper of DRAW modulo 6 to DRAW modulo 6 is TORN; as in a TRAY, if it can be.");
        String text = "planks 3 bear 9;" + SIX + "owes 0 to 1 of 1;owes 2 to 4 of 1;owes 5 to 3 of 1;owes 1 to 5 of 1;owes 3 to 0 of 1;snowy 5;";
        for (int seed = -30; seed < 30; seed++) {
            DebtBridge x = Bench.told(text);
            DebtBridge y = Bench.told(text);
            int times = 1 + Math.floorMod(seed, 9);
            int many = x.season(seed, times);
            e.due("as told, by " + seed, many, asTold(y, seed, times));
            e.holds("as seen, by " + seed, Sight.ofState(x).equals(Sight.ofState(y)));
            e.due("x, by " + seed, Bench.drawn(x), many > 0 ? Bench.drawn(y) : 0);
        }
    }

    /** The same season by single calls; a day takes its draw from x. */
    private static int asTold(DebtBridge y, int seed, int times) {
        int at = seed;
        int many = 0;
        for (int i = 0; i < times; i++) {
            int which = sixth(at, 1);
            int first = sixth(at, 2);
            int second = sixth(at, 3);
            int drawn = which < 4 ? 2 : 3;
            y.seed(drawn(at, 1));
            int answer = which == 0 ? y.days(1) : which < 4 ? y.step(first, true) : which == 4 ? y.hand(first, second) : y.tear(first, second);
            many += answer > -10 ? 1 : 0;
            at = drawn(at, drawn);
        }
        y.seed(at);
        return many;
    }
}
