/** The terms that tell of deeds, and promises 8 to 15. */
final class DeedEdges {
    private static final int TERMS = Edge.TERMS;
    private static final int LOW = Integer.MIN_VALUE;
    private static final int HIGH = Integer.MAX_VALUE;
    private static final String SIX = "person;person;person;person;person;person;";

    private final Edge e;

    private DeedEdges(Edge e) {
        this.e = e;
    }

    static void run(Edge e) {
        DeedEdges t = new DeedEdges(e);
        t.seed();
        t.step();
        t.stepRefused();
        t.hand();
        t.handRefused();
        t.tear();
        t.cancel();
        t.cancelRefused();
        t.mend();
        t.looked();
        t.draws();
        t.days();
        t.undo();
        t.undone();
        t.whyNot();
    }

    private void seed() {
        e.says(8, "x is this: what it was.");
        DebtBridge x = new DebtBridge();
        int was = 0;
        for (int n : new int[] {0, 1, -1, LOW, HIGH, 12345, 0}) {
            e.due("seed(" + n + ")", x.seed(n), was);
            was = n;
        }
        x = Bench.told("planks 2 bear 9;person;person;owes 0 to 1 of 5;");
        x.seed(5);
        x.step(0, true);
        x.seed(9);
        e.due("undone by itself", x.undo(1), 2);
        e.due("x as it was", x.seed(7), 5);
        e.due("its place and debts stay", x.person(0, 0) * 10 + x.owes(0, 1), 15);
        x.undo(3);
        e.due("the first one, too", x.seed(1), 0);
    }

    private void step() {
        e.says(TERMS, "To STEP: one PLACE on, to the east, or back, to the west;");
        DebtBridge x = Bench.told("planks 8 bear 5;person;");
        for (int place = 1; place <= 9; place++) {
            e.due("east", x.step(0, true), place);
        }
        for (int place = 8; place >= 0; place--) {
            e.due("west", x.step(0, false), place);
        }
        e.says(TERMS, "HAND IN HAND: two of one PLACE, both one PLACE to the east.");
        x = Bench.told("planks 2 bear 5;person;person;person;");
        for (int place = 1; place <= 3; place++) {
            e.due("place", x.hand(2, 0), place);
            e.due("the other one", x.person(0, 0), place);
            e.due("a third one", x.person(1, 0), 0);
        }
        e.says(TERMS, "Then it is looked which PLANKS BREAK.");
        x = Bench.told("planks 3 bear 9;plank 0 bears 3;person at 3;person at 3;weighs:4;");
        e.due("beside", x.step(0, false), 2);
        e.due("half of 4 on 3", x.count(7), 0);
        x = Bench.told("planks 3 bear 9;plank 0 bears 3;plank 2 bears 20;person at 3;weighs:8;");
        e.due("it stands", x.step(0, false), 2);
        e.due("half of 8 on 3: the one beside breaks", x.count(7), 1);
        x = Bench.told("planks 2 bear 9;plank 1 bears 3;person;person;weighs:4;");
        e.due("hand in hand", x.hand(0, 1), 1);
        e.due("half of 8 on 3", x.count(7), 2);
        e.says(9, "To STEP: its PLACE then (NONE: FALLEN).");
        x = Bench.told("planks 1 bear 5;person;person;weighs:5+who;");
        e.due("5 on 5", x.step(0, true), 1);
        e.due("the east bank", x.step(0, true), 2);
        e.due("back", x.step(0, false), 1);
        e.due("the west bank", x.step(0, false), 0);
        e.due("6 on 5", x.step(1, true), -1);
        e.due("it was done", x.count(10), 5);
    }

    private void stepRefused() {
        e.says(9, "-11 to -14.");
        // 0 and 1 owe each other; the law holds for none on day 1
        DebtBridge x = Bench.told("planks 1 bear 50;person;person;person at 2;owes 0 to 1 of 5;owes 1 to 0 of 5;lets:day=0;");
        for (int p : new int[] {-1, 3, 6, LOW, HIGH}) {
            e.due("no person " + p, x.step(p, true), -11);
            e.due("no person " + p, x.step(p, false), -11);
        }
        e.due("the last bank to the west", x.step(0, false), -12);
        e.due("the last bank to the east", x.step(2, true), -12);
        e.due("owe each other", x.step(0, true), -14);
        x.days(1);
        e.due("the law ahead of that", x.step(0, true), -13);
        e.due("the bank ahead of both", x.step(0, false), -12);
        e.due("nothing was done but the day", x.count(10), 1);
        e.due("nobody is told", new DebtBridge().step(0, true), -11);
        x = Bench.told("planks 1 bear 4;person;person at 1;person;owes 0 to 2 of 5;owes 2 to 0 of 5;weighs:5;lets:1=2;");
        e.due("broken ahead of the law and who owes", x.step(0, true), -12);
        e.due("fallen", x.step(1, true), -12);
        e.due("fallen", x.step(1, false), -12);
    }

    private void hand() {
        e.says(10, "HAND IN HAND: their PLACE then (of the first one; NONE: FALLEN).");
        DebtBridge x = Bench.told("planks 1 bear 9;person;person;person;weighs:5-who*1;");
        e.due("5 and 4 on 9", x.hand(1, 0), 1);
        e.due("the east bank", x.hand(0, 1), 2);
        x = Bench.told("planks 1 bear 8;person;person;person;weighs:5-who*1;");
        e.due("5 and 4 on 8", x.hand(0, 1), -1);
        e.due("both", x.count(2), 3);
        e.due("it was done", x.count(10), 1);
    }

    private void handRefused() {
        e.says(10, "-11 to -13.");
        DebtBridge x = Bench.told("planks 2 bear 50;person;person;person at 1;person at 3;person at 3;person;owes 0 to 1 of 5;"
            + "owes 1 to 0 of 5;lets:who<5;");
        for (int p : new int[] {-1, 6, LOW, HIGH}) {
            e.due("no person " + p, x.hand(p, 0), -11);
            e.due("no person " + p, x.hand(0, p), -11);
            e.due("both no person " + p, x.hand(p, p), -11);
        }
        e.due("both one", x.hand(0, 0), -11);
        e.due("both one, on the last bank", x.hand(3, 3), -11);
        e.due("not at one place", x.hand(0, 2), -12);
        e.due("not at one place", x.hand(2, 0), -12);
        e.due("on the last bank", x.hand(3, 4), -12);
        e.due("not at one place, ahead of the law", x.hand(2, 5), -12);
        e.due("the law for the second", x.hand(0, 5), -13);
        e.due("the law for the first", x.hand(5, 0), -13);
        e.due("nothing was done", x.count(10), 0);
        e.due("who owe each other may", x.hand(0, 1), 1);
        x = Bench.told("planks 1 bear 4;person;person;person at 1;person at 1;weighs:5;lets:1=2;");
        e.due("broken, ahead of the law", x.hand(0, 1), -12);
        e.due("both fallen", x.hand(2, 3), -12);
        e.due("one fallen", x.hand(0, 2), -12);
        e.due("one fallen", x.hand(2, 0), -12);
        x = Bench.told("planks 1 bear 4;person at 1;person at 1;lets:1=2;");
        e.due("the law isn't asked for a bank", x.hand(0, 1), 2);
    }

    private void tear() {
        e.says(TERMS, "To TEAR a paper: one owes another one nothing then.");
        DebtBridge x = Bench.told("planks 1 bear 9;person;person;owes 0 to 1 of 5;owes 1 to 0 of 6;");
        x.tear(0, 1);
        e.due("nothing", x.owes(0, 1), 0);
        e.due("the other way stays", x.owes(1, 0), 6);
        e.due("a paper less", x.count(5), 1);
        e.says(11, "To TEAR the paper of one to another one: how much it was of.");
        x = Bench.told("planks 1 bear 9;person;person;owes 0 to 1 of 1;owes 1 to 0 of 99;");
        e.due("99", x.tear(1, 0), 99);
        e.due("1", x.tear(0, 1), 1);
        e.says(11, "-11, -12.");
        e.due("torn already", x.tear(0, 1), -12);
        e.due("both one", x.tear(0, 0), -11);
        for (int p : new int[] {-1, 2, 6, LOW, HIGH}) {
            e.due("no person " + p, x.tear(p, 0), -11);
            e.due("no person " + p, x.tear(0, p), -11);
        }
        e.due("nothing was done", x.count(10), 2);
        e.due("nobody is told", new DebtBridge().tear(0, 1), -11);
    }

    private void cancel() {
        e.says(TERMS, "To CANCEL a RING: people, each of whom owes the next one, the last one the first: each owes so much less as the least of them does.");
        String text = "planks 1 bear 9;" + SIX + "owes 0 to 1 of 9;owes 1 to 2 of 5;owes 2 to 3 of 8;owes 3 to 4 of 7;owes 4 to 5 of 6;"
            + "owes 5 to 0 of 5;owes 1 to 0 of 1;";
        DebtBridge x = Bench.told(text);
        Bench.fill(x, 0, 0, 1, 2, 3, 4, 5);
        e.due("six, by the least", x.cancel(0), 5);
        int[] left = {4, 0, 3, 2, 1, 0};
        for (int p = 0; p < 6; p++) {
            e.due("of " + p, x.owes(p, (p + 1) % 6), left[p]);
        }
        e.due("what isn't of the ring", x.owes(1, 0), 1);
        e.due("papers of 0 are none", x.count(5), 5);
        e.due("nobody owes itself", x.owes(0, 0) + x.owes(5, 5), 0);
        for (int first = 0; first < 6; first++) {
            x = Bench.told(text);
            Bench.fill(x, 0, first, (first + 1) % 6, (first + 2) % 6, (first + 3) % 6, (first + 4) % 6, (first + 5) % 6);
            e.due("from " + first + " on", x.cancel(0), 5);
            e.due("all debts then", x.count(6), 11);
        }
        e.says(12, "To CANCEL the RING of a TRAY: by how much each owes less.");
        x = Bench.told(text);
        Bench.fill(x, 3, 1, 0);
        e.due("two", x.cancel(3), 1);
        e.due("one of them owes still", x.owes(0, 1), 8);
        e.due("it can be undone", x.undo(1), 0);
        e.due("as it was", x.owes(1, 0) * 10 + x.owes(0, 1), 19);
    }

    private void cancelRefused() {
        DebtBridge x = Bench.told("planks 1 bear 9;person;person;person;owes 0 to 1 of 9;owes 1 to 2 of 5;owes 2 to 0 of 8;");
        e.says(12, "-2: the TRAY; -6;");
        for (int tray : new int[] {-1, 4, LOW, HIGH}) {
            e.due("no tray " + tray, x.cancel(tray), -2);
        }
        for (int tray = 0; tray < 4; tray++) {
            e.due("missing " + tray, x.cancel(tray), -6);
        }
        e.says(12, "-11: not 2 to 6 numbers, one is no PERSON, one stands there twice;");
        long[][] wrong = {{}, {0}, {0, 1, 2, 0, 1, 2, 0}, new long[40], {0, 3}, {-1, 0}, {0, 1, 2, 3}, {0, 1, 4294967298L},
            {0, 0}, {0, 1, 0}, {0, 1, 2, 2}, {2, 1, 2}, {0, 1, Long.MAX_VALUE}, {0, 1, Long.MIN_VALUE}};
        for (long[] numbers : wrong) {
            Bench.fill(x, 0, numbers);
            e.due(java.util.Arrays.toString(numbers), x.cancel(0), -11);
        }
        e.due("nothing was done", x.count(10), 0);
        e.says(12, "-12: one owes the next one nothing.");
        for (long[] numbers : new long[][] {{0, 1}, {1, 0}, {0, 2, 1}, {1, 0, 2}}) {
            Bench.fill(x, 0, numbers);
            e.due(java.util.Arrays.toString(numbers), x.cancel(0), -12);
        }
        e.due("debts stay", x.count(6), 22);
        Bench.fill(x, 0, 0, 1, 2);
        e.due("once", x.cancel(0), 5);
        e.due("then the least is nothing", x.cancel(0), -12);
    }

    private void mend() {
        e.says(TERMS, "To MEND a PLANK: it is BROKEN no more; if it wasn't, it BEARS 10 more (99 times at most);");
        DebtBridge x = Bench.told("planks 1 bear 5;person at 1;weighs:6;");
        e.due("broken no more", x.mend(0) * 10 + x.plank(0, 2), 50);
        for (int i = 1; i <= 99; i++) {
            e.due("10 more, " + i, x.mend(0), 5 + 10 * i);
        }
        e.due("not 100 times", x.mend(0), -12);
        e.due("bears", x.plank(0, 0), 995);
        e.due("mended", x.plank(0, 3), 99);
        // a broken one is broken no more, however often it was mended whole
        x = Bench.told("planks 1 bear 9;person;weighs:snow*999*2;snowy 10;");
        for (int i = 1; i <= 99; i++) {
            x.mend(0);
        }
        x.days(1);
        x.step(0, true);
        e.due("broken", x.plank(0, 2), 1);
        e.due("broken no more", x.mend(0), 999);
        e.due("bears no more than that", x.plank(0, 0), 999);
        e.due("whole", x.plank(0, 2), 0);
        e.due("but not 100 times", x.mend(0), -12);
        e.says(13, "To MEND: what it BEARS then.");
        x = Bench.told("planks 8 bear 0;plank 7 bears 999;");
        e.due("0 and 10", x.mend(0), 10);
        e.due("999 and 10", x.mend(7), 1009);
        x = Bench.told("planks 2 bear 9;plank 1 bears 3;person at 1;weighs:8;");
        e.due("what it bears though it breaks again", x.mend(1) * 10 + x.plank(1, 2), 31);
        e.says(13, "-11, -12.");
        for (int k : new int[] {-1, 2, 8, LOW, HIGH}) {
            e.due("no plank " + k, x.mend(k), -11);
        }
        e.due("the last one there is", x.mend(1), 3);
        for (int i = 1; i <= 99; i++) {
            x.mend(0);
        }
        e.due("99 times", x.mend(0), -12);
    }

    private void looked() {
        e.says(TERMS, "behind that, behind a paper is TORN, a RING CANCELLED, a DAY gone by it is looked likewise which PLANKS BREAK.");
        DebtBridge x = Bench.told("planks 2 bear 9;plank 1 bears 3;person at 1;weighs:8;");
        e.due("broken beside", x.count(7), 2);
        x.mend(1);
        e.due("mended: broken again", x.count(7), 2);
        x = Bench.told("planks 1 bear 9;person at 1;person;owes 0 to 1 of 5;weighs:12-debt;");
        x.tear(0, 1);
        e.due("torn: 12 on 9", x.person(0, 0), -1);
        x = Bench.told("planks 1 bear 9;person at 1;person;owes 1 to 0 of 5;weighs:12-owed*2;");
        x.tear(1, 0);
        e.due("torn by another one: 12 on 9", x.person(0, 0), -1);
        x = Bench.told("planks 1 bear 9;person at 1;person;owes 0 to 1 of 5;owes 1 to 0 of 4;weighs:12-debt;");
        Bench.fill(x, 0, 0, 1);
        e.due("cancelled", x.cancel(0), 4);
        e.due("11 on 9", x.person(0, 0), -1);
        x = Bench.told("planks 1 bear 9;person at 1;weighs:day*5;");
        x.days(1);
        e.due("a day: 5 on 9", x.person(0, 0), 1);
        x.days(1);
        e.due("a day: 10 on 9", x.person(0, 0), -1);
        x = Bench.told("planks 1 bear 9;person at 1;weighs:day*5;");
        x.days(7);
        e.due("each of seven days: 0 on 9 at last", x.person(0, 4) * 10 + x.person(0, 0), -1);
    }

    private void draws() {
        e.says(TERMS, "A DAY goes by: DRAWS: x (an int, 0 at first; told by a call) becomes 1103515245 x + 12345, a DRAW is x >>> 16;");
        DebtBridge x = Bench.told("planks 1 bear 9;snowy 5;");
        x.days(1);
        e.due("from 0", Bench.drawn(x), 12345);
        for (int seed : new int[] {1, -1, 2, HIGH, LOW, 65535, 1 << 16, -(1 << 16)}) {
            x.seed(seed);
            x.days(1);
            e.due("from " + seed, Bench.drawn(x), 1103515245 * seed + 12345);
            x.undo(2);
            e.due("only a day draws", Bench.drawn(x), 12345);
        }
        e.says(TERMS, "it snows on the next one, if DRAW modulo 10 is below snowy.");
        for (int snowy = 0; snowy <= 10; snowy++) {
            x = Bench.told("planks 1 bear 9;snowy " + snowy + ";");
            x.seed(-7);
            int drawn = -7;
            for (int day = 0; day < 12; day++) {
                drawn = 1103515245 * drawn + 12345;
                int snows = (drawn >>> 16) % 10 < snowy ? 1 : 0;
                e.due("snowy " + snowy + ", day " + day, x.days(1) * 10 + x.count(9), snows * 11);
            }
        }
    }

    private void days() {
        e.says(14, "n DAYS (1 to 99) go by: on how many it snowed.");
        DebtBridge x = Bench.told("planks 1 bear 9;snowy 10;day 999;");
        e.due("1", x.days(1), 1);
        e.due("day", x.count(8), 1000);
        e.due("99", x.days(99), 99);
        e.due("day", x.count(8), 1099);
        e.due("two calls", x.count(10), 2);
        e.due("as a whole", x.undo(1) * 10000 + x.count(8), 11000);
        // from 0 on the draws modulo 10 are 0 6 6 5 8 5 5 9
        x = Bench.told("planks 1 bear 9;snowy 6;");
        e.due("the first, the fourth, the sixth, the seventh", x.days(8), 4);
        e.says(14, "-3.");
        for (int n : new int[] {0, -1, 100, LOW, HIGH}) {
            e.due("n " + n, x.days(n), -3);
        }
        e.due("day stays", x.count(8), 8);
        e.due("nothing was done", x.count(10), 1);
    }

    private void undo() {
        e.says(15, "n calls (1 to 10) are UNDONE: how many still can be.");
        DebtBridge x = Bench.told("planks 1 bear 9;day 100;");
        for (int i = 0; i < 10; i++) {
            x.days(1);
        }
        e.due("1", x.undo(1), 9);
        e.due("day", x.count(8), 109);
        e.due("9", x.undo(9), 0);
        e.due("day", x.count(8), 100);
        for (int i = 0; i < 10; i++) {
            x.days(2);
        }
        e.due("10", x.undo(10), 0);
        e.due("day", x.count(8), 100);
        e.says(15, "-3: n, more than can be.");
        e.due("none can be", x.undo(1), -3);
        for (int i = 0; i < 11; i++) {
            x.days(1);
        }
        for (int n : new int[] {0, -1, 11, LOW, HIGH}) {
            e.due("n " + n, x.undo(n), -3);
        }
        e.due("day stays", x.count(8), 111);
        e.due("7", x.undo(7), 3);
        e.due("4 of 3", x.undo(4), -3);
        e.due("day stays", x.count(8), 104);
        e.due("3 of 3", x.undo(3), 0);
        e.due("new object", new DebtBridge().undo(1), -3);
    }

    private void undone() {
        e.says(TERMS, "Calls that did some can be UNDONE each as a whole, the latest first, 10 at most (eldest are forgotten):");
        DebtBridge x = Bench.told("planks 2 bear 9;person;person;owes 0 to 1 of 3;snowy 9;");
        x.alone(0);
        x.count(8);
        x.step(7, true);
        x.undo(1);
        Bench.fill(x, 0, 8);
        x.perform(0);
        x.image(0);
        e.due("what does nothing can't be undone", x.count(10), 0);
        for (int i = 1; i <= 25; i++) {
            x.step(0, i % 2 == 1);
            e.due("10 at most", x.count(10), Math.min(i, 10));
        }
        e.due("the latest first", x.undo(1), 9);
        e.due("it was at 1", x.person(0, 0), 0);
        e.due("all that are kept", x.undo(9), 0);
        e.due("behind the 15th", x.person(0, 0), 1);
        e.due("the eldest are forgotten", x.undo(1), -3);
        x.step(0, false);
        x.days(5);
        e.due("then two", x.count(10), 2);
        DebtBridge full = Bench.told("planks 2 bear 9;person;day 3;");
        for (int i = 0; i < 10; i++) {
            full.days(1);
        }
        full.step(0, false);
        full.step(1, true);
        e.due("what is refused forgets none of ten", full.undo(10) * 100 + full.count(8), 3);
        e.due("five days are one call", x.undo(1) * 100 + x.count(8), 100);
        e.says(TERMS, "PLACES, debts, PLANKS, DAY, snow, x.");
        x = Bench.told("planks 3 bear 9;person;person at 2;owes 0 to 1 of 9;owes 1 to 0 of 7;weighs:debt+snow*9;snowy 10;");
        String before = Sight.ofState(x);
        x.mend(0);
        x.hand(0, 1);
        x.tear(0, 1);
        x.days(3);
        x.mend(1);
        e.holds("much has changed", !Sight.ofState(x).equals(before));
        e.due("undone", x.undo(4), 0);
        e.holds("as it was", Sight.ofState(x).equals(before));
        e.due("x", Bench.drawn(x), 0);
        undoneEach();
    }

    /** Each call by itself, behind others, is undone to what was right ahead of it. */
    private void undoneEach() {
        for (int which = 0; which < 10; which++) {
            // another one is asked what was ahead: asking for x keeps a state, as deeds do
            DebtBridge other = threeDone();
            String before = Sight.ofState(other);
            int drawn = Bench.drawn(other);
            DebtBridge x = threeDone();
            did(x, which);
            e.due("done: " + which, x.count(10), 4);
            e.due("undone: " + which, x.undo(1), 3);
            e.holds("as ahead of " + which, Sight.ofState(x).equals(before));
            e.due("x as ahead of " + which, Bench.drawn(x), drawn);
        }
    }

    private static DebtBridge threeDone() {
        DebtBridge x = Bench.told("planks 2 bear 19;person;person;person at 1;owes 0 to 1 of 3;owes 1 to 0 of 3;owes 2 to 0 of 4;"
            + "snowy 5;day 1;");
        Bench.fill(x, 0, 0, 1);
        Bench.fill(x, 1, 301);
        x.mend(0);
        x.days(1);
        x.tear(2, 0);
        return x;
    }

    private static void did(DebtBridge x, int which) {
        switch (which) {
            case 0: x.seed(99); break;
            case 1: x.step(2, true); break;
            case 2: x.step(2, false); break;
            case 3: x.hand(0, 1); break;
            case 4: x.tear(0, 1); break;
            case 5: x.cancel(0); break;
            case 6: x.mend(1); break;
            case 7: x.days(2); break;
            case 8: x.perform(1); break;
            default: x.season(3, 30); break;
        }
    }

    private void whyNot() {
        e.says(TERMS, "Why not: 1 no such PERSON, PLANK, both one.");
        DebtBridge x = Bench.told("planks 2 bear 9;person;person at 3;person at 1;person;owes 0 to 3 of 1;owes 3 to 0 of 1;"
            + "weighs:who*5;lets:plank=0 or who=1;");
        why(x, 1, 4, 14, 104, 140, 111, 204, 240, 211, 302);
        e.says(TERMS, "2 it is FALLEN, on the last bank; not both at one PLACE (HAND IN HAND); the PLANK it would come to is BROKEN;");
        e.due("2 is fallen", x.count(2) * 10 + x.count(7), 41);
        why(x, 2, 2, 12, 1, 10, 101, 112, 0);
        Bench.fill(x, 0, 11, 11);
        e.due("west to a broken one", x.judge(0, 0) * 10 + x.judge(0, 1), 12);
        e.says(TERMS, "it owes that one nothing (to TEAR); MENDED 99 times.");
        why(x, 2, 201, 231);
        for (int i = 1; i <= 99; i++) {
            x.mend(1);
        }
        why(x, 2, 301);
        e.says(TERMS, "3 the law lets.");
        x = Bench.told("planks 2 bear 99;person at 1;person at 1;person;owes 0 to 1 of 9;owes 1 to 0 of 9;lets:plank=0;");
        why(x, 3, 0, 101, 110);
        e.says(TERMS, "4 it and another one, not FALLEN, owe each other (to STEP; who goes HAND IN HAND may).");
        why(x, 4, 10, 11);
        x = Bench.told("planks 2 bear 5;person;person;person at 1;owes 0 to 1 of 3;owes 1 to 0 of 3;owes 0 to 2 of 1;owes 2 to 0 of 9;");
        e.due("2 is fallen", x.count(2), 4);
        e.due("1 isn't", x.mend(0) * 0 + x.step(0, true), -14);
        e.due("hand in hand they may", x.hand(0, 1), -1);
        x = Bench.told("planks 2 bear 5;person;person;person at 1;owes 0 to 1 of 3;owes 2 to 1 of 9;owes 0 to 2 of 1;owes 2 to 0 of 9;");
        x.mend(0);
        e.due("only the fallen one owes it", x.step(0, true), 1);
        e.due("one way alone", x.owes(0, 1) * 10 + x.owes(1, 0), 30);
        x = Bench.told("planks 2 bear 50;person;person;owes 0 to 1 of 3;");
        e.due("it owes, but isn't owed", x.step(0, true), 1);
        e.due("it is owed, but doesn't owe", x.step(1, true), 1);
        x = Bench.told("planks 2 bear 50;person;person;owes 0 to 1 of 1;owes 1 to 0 of 1;");
        e.due("of 1 each", x.step(0, true), -14);
        x = Bench.told("planks 2 bear 50;person;person at 3;person;owes 0 to 1 of 3;owes 1 to 0 of 3;");
        e.due("wherever the other one is", x.step(0, true), -14);
        e.due("of another two", x.step(2, true), 1);
        x.tear(1, 0);
        e.due("torn", x.step(0, true), 1);
    }

    private void why(DebtBridge x, int due, long... deeds) {
        for (long v : deeds) {
            Bench.fill(x, 0, v);
            e.due("why of " + v, x.judge(0, 1), due);
        }
    }
}
