/** The terms that tell of trays and images, and promises 41 to 46. */
final class TrayEdges {
    private static final int TERMS = Edge.TERMS;
    private static final int LOW = Integer.MIN_VALUE;
    private static final int HIGH = Integer.MAX_VALUE;
    private static final String SIX = "person;person;person;person;person;person;";

    private final Edge e;

    private TrayEdges(Edge e) {
        this.e = e;
    }

    static void run(Edge e) {
        TrayEdges t = new TrayEdges(e);
        t.trays();
        t.numbers();
        t.write();
        t.lists();
        t.images();
        t.image();
        t.restore();
        t.count();
        t.countUsed();
    }

    private void trays() {
        e.says(TERMS, "TRAYS 0 to 3 are MISSING at first, or have 0 to 40 numbers of 8 bits (sort 0), 16 (1), 32 (2), 64 (3).");
        DebtBridge x = new DebtBridge();
        for (int tray = 0; tray < 4; tray++) {
            e.due("missing at first: " + tray, x.write(tray, 0, 1), -6);
            e.due("made: " + tray, x.numbers(tray, tray, 40), 0);
            e.due("its first: " + tray, x.write(tray, 0, 1), 1);
            e.due("its last: " + tray, x.write(tray, 39, 2), 2);
            e.due("no 41st: " + tray, x.write(tray, 40, 2), -7);
        }
        e.due("none of it: it is there", x.numbers(0, 0, 0), 0);
        e.due("none of it: not missing", x.write(0, 0, 1), -7);
        e.due("no tray -1", x.numbers(-1, 0, 1), -2);
        e.due("no tray 4", x.numbers(4, 0, 1), -2);
        long[] due = {-1, -1, -1, -1L};
        long[] cut = {0xff, 0xffff, 0xffffffffL, -1L};
        for (int sort = 0; sort < 4; sort++) {
            x.numbers(1, sort, 1);
            e.due("sort " + sort + ": its bits alone", x.write(1, 0, cut[sort]), due[sort]);
            e.due("sort " + sort + ": its highest", x.write(1, 0, cut[sort] >>> 1), sort == 3 ? Long.MAX_VALUE : cut[sort] >>> 1);
        }
    }

    private void numbers() {
        e.says(41, "A TRAY has n numbers of a sort, all 0 (in place of another one): 0.");
        DebtBridge x = Bench.told("planks 8 bear 9;person;");
        Bench.fill(x, 0, -1, -1, -1, -1);
        e.due("in place of another one", x.numbers(0, 2, 3), 0);
        e.due("of another sort", x.write(0, 2, 1L << 32), 0);
        e.due("of another size", x.write(0, 3, 0), -7);
        // 0: PERSON 0 steps; -1 would be a day
        e.due("all 0: three steps", x.perform(0), 3);
        e.due("no day", x.count(8) * 10 + x.person(0, 0), 3);
        e.due("a longer one", x.numbers(0, 0, 6), 0);
        e.due("all 0: six steps more", x.perform(0), 6);
        e.due("east", x.person(0, 0), 9);
        e.due("others are missing still", x.lists(1), -6);
        e.due("it can't be undone, nor counts", x.count(10), 2);
        e.says(41, "-2: no such TRAY, sort;");
        for (int n : new int[] {-1, 4, LOW, HIGH}) {
            e.due("no tray " + n, x.numbers(n, 0, 1), -2);
            e.due("no sort " + n, x.numbers(0, n, 1), -2);
            e.due("no tray " + n + ", ahead of n", x.numbers(n, 0, 41), -2);
            e.due("no sort " + n + ", ahead of n", x.numbers(0, n, -1), -2);
        }
        e.says(41, "-3, and the TRAY stays: n is below 0 or above 40.");
        x.numbers(0, 1, 3);
        x.write(0, 2, -1);
        for (int n : new int[] {-1, 41, LOW, HIGH}) {
            e.due("n " + n, x.numbers(0, 3, n), -3);
            e.due("n " + n + " of a missing one", x.numbers(1, 3, n), -3);
        }
        e.due("missing still", x.lists(1), -6);
        e.due("of its size still", x.write(0, 3, 0), -7);
        e.due("of its sort still", x.write(0, 0, 65536 + 10), 10);
        e.due("with its numbers: 0 west, it stays at 8, east, a day", x.perform(0) * 100 + x.count(8), 301);
        e.due("0", x.numbers(0, 0, 0), 0);
        e.due("40", x.numbers(0, 0, 40), 0);
    }

    private void write() {
        e.says(42, "Number i of a TRAY is v, cut to its sort: as it is there.");
        DebtBridge x = new DebtBridge();
        long[][] cases = {{0, 127, 127}, {0, 128, -128}, {0, 255, -1}, {0, 256, 0}, {0, -128, -128}, {0, -129, 127},
            {1, 32767, 32767}, {1, 32768, -32768}, {1, 65535, -1}, {1, 65536, 0}, {1, -32768, -32768}, {1, -32769, 32767},
            {2, HIGH, HIGH}, {2, 1L + HIGH, LOW}, {2, (1L << 32) - 1, -1}, {2, 1L << 32, 0}, {2, LOW, LOW}, {2, LOW - 1L, HIGH},
            {3, Long.MAX_VALUE, Long.MAX_VALUE}, {3, Long.MIN_VALUE, Long.MIN_VALUE}, {3, 1L << 32, 1L << 32}, {3, -1, -1}};
        for (long[] one : cases) {
            x.numbers(0, (int) one[0], 40);
            e.due("sort " + one[0] + ", first", x.write(0, 0, one[1]), one[2]);
            e.due("sort " + one[0] + ", last", x.write(0, 39, one[1]), one[2]);
        }
        x = Bench.told("planks 8 bear 9;person;");
        x.numbers(0, 0, 2);
        x.write(0, 1, 255);
        e.due("what is there is the cut one: a step, a day", x.perform(0) * 10 + x.count(8), 21);
        e.says(42, "-2: no such TRAY; -6; -7.");
        for (int tray : new int[] {-1, 4, LOW, HIGH}) {
            e.due("no tray " + tray, x.write(tray, 0, 1), -2);
            e.due("no tray " + tray + ", ahead of the place", x.write(tray, -1, 1), -2);
        }
        for (int tray = 1; tray < 4; tray++) {
            e.due("missing " + tray, x.write(tray, 0, 1), -6);
            e.due("missing " + tray + ", ahead of the place", x.write(tray, -1, 1), -6);
        }
        for (int i : new int[] {-1, 2, 40, LOW, HIGH}) {
            e.due("no number " + i, x.write(0, i, 1), -7);
        }
        x.numbers(0, 0, 0);
        e.due("none at all", x.write(0, 0, 1), -7);
    }

    private void lists() {
        e.says(43, "What each PERSON WEIGHS comes into a TRAY, as far as it has places: how many.");
        DebtBridge x = Bench.told("planks 8 bear 9;" + SIX + "weighs:300+who;");
        int[][] cases = {{0, 0}, {1, 1}, {5, 5}, {6, 6}, {7, 6}, {40, 6}};
        for (int[] one : cases) {
            x.numbers(0, 3, one[0]);
            e.due(one[0] + " places", x.lists(0), one[1]);
        }
        // 300 to 305 mend planks 0 to 5; what stands behind stays: a day
        Bench.fill(x, 0, -1, -1, -1, -1, -1, -1, -1);
        x.lists(0);
        e.due("six mends and a day", x.perform(0), 7);
        for (int k = 0; k < 8; k++) {
            e.due("mended " + k, x.plank(k, 3), k < 6 ? 1 : 0);
        }
        e.due("a day", x.count(8), 1);
        x = Bench.told("planks 8 bear 9;person;person;weighs:255+who;");
        x.numbers(0, 0, 2);
        x.lists(0);
        e.due("cut to its sort: -1 a day, 0 a step", x.perform(0) * 100 + x.count(8) * 10 + x.person(0, 0), 210 - 1);
        x = Bench.told("planks 1 bear 2;");
        x.numbers(0, 0, 3);
        e.due("no people", x.lists(0), 0);
        x = Bench.told("planks 2 bear 9;person;person;owes 0 to 1 of 11;owes 1 to 0 of 5;");
        x.numbers(0, 0, 2);
        x.tear(0, 1);
        x.undo(1);
        x.lists(0);
        e.due("undone: 11 and 5, and by no torn paper", x.torn(0), 0);
        e.due("11: 1 can't step west; 5 is nobody", x.judge(0, 1), 2);
        x = Bench.told("planks 1 bear 2;person at 1;weighs:300;");
        x.numbers(0, 1, 1);
        e.due("the fallen, too", x.lists(0) * 10 + x.count(2), 11);
        e.due("300: its plank is mended", x.perform(0) * 10 + x.plank(0, 2), 10);
        e.says(43, "-2; -6.");
        for (int tray : new int[] {-1, 4, LOW, HIGH}) {
            e.due("no tray " + tray, x.lists(tray), -2);
        }
        for (int tray = 1; tray < 4; tray++) {
            e.due("missing " + tray, x.lists(tray), -6);
        }
    }

    private static DebtBridge busy() {
        DebtBridge x = Bench.told("planks 3 bear 19;plank 1 bears 7;person;person at 2;person at 4;person at 3;owes 0 to 1 of 9;"
            + "owes 1 to 0 of 7;owes 2 to 0 of 3;weighs:debt+snow;lets:who<3;snowy 6;day 40;");
        x.seed(12);
        x.days(3);
        x.mend(2);
        x.tear(0, 1);
        return x;
    }

    private void images() {
        e.says(TERMS, "IMAGES 0 to 1: THE BRIDGE and what a call could bring back by UNDOING; nothing can be UNDONE behind (none at first).");
        DebtBridge x = busy();
        e.due("none at first: 0", x.restore(0), -5);
        e.due("none at first: 1", x.restore(1), -5);
        String before = Sight.ofState(x);
        int drawn = Bench.drawn(x);
        x.image(0);
        Bench.tell(x, "planks 1 bear 0;person;day 3;");
        x.days(2);
        e.due("restored", x.restore(0), 0);
        e.holds("THE BRIDGE, places, debts, planks, day, snow", Sight.ofState(x).equals(before));
        e.due("x", Bench.drawn(x), drawn);
        x = busy();
        x.image(1);
        e.due("what can be undone stays as it is made", x.count(10), 4);
        e.due("it can still be", x.undo(1), 3);
        e.due("restored", x.restore(1), 0);
        e.due("nothing can be undone behind", x.count(10), 0);
        e.due("nothing can be undone behind", x.undo(1), -3);
        e.due("torn, as it was", x.owes(0, 1), 0);
        // the laws and what it snows by are of THE BRIDGE
        x = Bench.told("planks 1 bear 9;person;weighs:5;lets:1=1;snowy 10;");
        x.image(0);
        Bench.tell(x, "planks 1 bear 9;person;weighs:6;lets:1=2;snowy 0;");
        x.restore(0);
        e.due("weighs", x.person(0, 4), 5);
        e.due("lets", x.alone(0), -1);
        e.due("snowy", x.days(3), 3);
    }

    private void image() {
        e.says(44, "An IMAGE is made: 0.");
        DebtBridge x = Bench.told("planks 2 bear 9;person;");
        e.due("0", x.image(0), 0);
        x.step(0, true);
        e.due("1", x.image(1), 0);
        x.step(0, true);
        e.due("of 0", x.restore(0) + x.person(0, 0), 0);
        e.due("of 1", x.restore(1) + x.person(0, 0), 1);
        x.step(0, true);
        e.due("in place of the one before", x.image(0), 0);
        x.step(0, true);
        e.due("of 0", x.restore(0) + x.person(0, 0), 2);
        e.due("no call to be undone", x.image(0) + x.count(10), 0);
        x = new DebtBridge();
        x.image(1);
        Bench.tell(x, "planks 2 bear 9;person;");
        x.restore(1);
        e.due("of a new object", x.count(0) * 100 + x.count(1) * 10 + x.count(12), 100);
        e.says(44, "-2.");
        for (int i : new int[] {-1, 2, LOW, HIGH}) {
            e.due("no image " + i, x.image(i), -2);
        }
        e.due("none is made by that", x.restore(0), -5);
    }

    private void restore() {
        e.says(45, "All that is in an IMAGE is as it was: 0.");
        DebtBridge x = busy();
        String before = Sight.ofState(x);
        x.image(0);
        for (int times = 0; times < 2; times++) {
            x.days(9);
            x.mend(1);
            x.tear(1, 0);
            x.step(2, false);
            e.holds("much has changed", !Sight.ofState(x).equals(before));
            e.due("restored", x.restore(0), 0);
            e.holds("as it was, however often", Sight.ofState(x).equals(before));
        }
        // trays, the tape and the latest fault are in no image
        x = Bench.told("planks 2 bear 9;person;");
        x.image(0);
        x.numbers(2, 0, 5);
        x.feed(0, 0, 0, 0, 0);
        x.bridge(1);
        x.feed(0, 0, 0, 0, 0);
        x.restore(0);
        e.due("the tray", x.write(2, 4, 3), 3);
        e.due("the tape", x.count(11), 20);
        e.due("the fault", x.fault(0), 1);
        e.says(45, "-2; -5: none was made.");
        for (int i : new int[] {-1, 2, LOW, HIGH}) {
            e.due("no image " + i, x.restore(i), -2);
        }
        e.due("of 1 none was made", x.restore(1), -5);
        e.due("a new object: 0", new DebtBridge().restore(0), -5);
    }

    private void count() {
        e.says(46, "0 PLANKS, 1 PEOPLE, 2 who is FALLEN, as bits, 3 who is on the east bank, as bits, 4 who is on PLANKS, as bits,");
        DebtBridge x = new DebtBridge();
        int[] fresh = {1, 0, 0, 0, 0};
        for (int what = 0; what < 5; what++) {
            e.due("new count(" + what + ")", x.count(what), fresh[what]);
        }
        x = Bench.told("planks 8 bear 9;" + SIX.replaceFirst("person;person;", "person at 8;person at 9;").replaceAll("person;person;$",
            "person at 1;person at 4;") + "weighs:who*2;");
        int[] due = {8, 6, 32, 2, 17};
        for (int what = 0; what < 5; what++) {
            e.due("count(" + what + ")", x.count(what), due[what]);
        }
        e.says(46, "5 papers, 6 all debts together, 7 BROKEN PLANKS, as bits, 8 DAY, 9 1 if it snows, else 0,");
        x = Bench.told("planks 8 bear 0;" + SIX + "owes 0 to 5 of 99;owes 5 to 0 of 1;snowy 10;day 999;");
        int[] told = {2, 100, 0, 999, 0};
        for (int what = 5; what <= 9; what++) {
            e.due("count(" + what + ")", x.count(what), told[what - 5]);
        }
        x.days(1);
        x.tear(0, 5);
        x.step(5, true);
        int[] then = {1, 1, 1, 1000, 1};
        for (int what = 5; what <= 9; what++) {
            e.due("then count(" + what + ")", x.count(what), then[what - 5]);
        }
        e.due("the last of eight", Bench.told("planks 8 bear 0;person at 8;weighs:1;").count(7), 128);
    }

    private void countUsed() {
        e.says(46, "10 calls that can be UNDONE, 11 bytes on THE TAPE, 12 LINES.");
        DebtBridge x = Bench.told("planks 8 bear 0;day 3;");
        e.due("lines", x.count(12), 2);
        e.due("nothing", x.count(10), 0);
        for (int i = 1; i <= 12; i++) {
            x.days(1);
            e.due("calls", x.count(10), Math.min(i, 10));
        }
        e.due("an empty tape", x.count(11), 0);
        for (int i = 1; i <= 46; i++) {
            x.feed(0, 0, 0, 0, 0);
            e.due("bytes", x.count(11), Math.min(i, 45) * 20);
        }
        e.says(46, "NONE for others.");
        for (int what : new int[] {-1, 13, LOW, HIGH}) {
            e.due("what " + what, x.count(what), -1);
        }
    }
}
