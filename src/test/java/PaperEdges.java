/** The terms that tell of torn papers and chances, and promises 36 to 40. */
final class PaperEdges {
    private static final int TERMS = Edge.TERMS;
    private static final int LOW = Integer.MIN_VALUE;
    private static final int HIGH = Integer.MAX_VALUE;
    private static final String THREE = "planks 2 bear 20;person;person;person;owes 0 to 1 of 5;owes 0 to 2 of 5;owes 1 to 2 of 3;"
        + "owes 2 to 0 of 4;";

    private final Edge e;

    private PaperEdges(Edge e) {
        this.e = e;
    }

    static void run(Edge e) {
        PaperEdges t = new PaperEdges(e);
        t.seen();
        t.torn();
        t.tornAt();
        t.weighed();
        t.chanceTerm();
        t.chance();
        t.likely();
    }

    private static int tornBy(DebtBridge x, long... seen) {
        Bench.fill(x, 2, seen);
        return x.torn(2);
    }

    private void seen() {
        e.says(TERMS, "SEEN in a TRAY (as many numbers as PEOPLE): what each WEIGHS today (NONE: not seen) when one paper is TORN: papers of which it can be.");
        DebtBridge x = Bench.told(THREE);
        // they weigh 10, 3, 4; torn one by one: 5 3 4, 5 3 4, 10 0 4, 10 3 0
        e.due("nobody is seen: every paper", tornBy(x, -1, -1, -1), 4);
        e.due("0 weighs 5", tornBy(x, 5, -1, -1), 2);
        e.due("0 weighs 5, all are seen", tornBy(x, 5, 3, 4), 2);
        e.due("1 weighs 0", tornBy(x, -1, 0, -1), 1);
        e.due("all as now: one is torn", tornBy(x, 10, 3, 4), 0);
        e.due("none fits the last one", tornBy(x, 5, 3, 0), 0);
        e.due("only NONE is not seen", tornBy(x, -2, -1, -1), 0);
        e.due("beyond an int", tornBy(x, 5L + (1L << 32), -1, -1), 0);
        e.due("-1 of more bits only", tornBy(x, (1L << 32) - 1, -1, -1), 0);
        x = Bench.told("planks 2 bear 20;person;person;owes 0 to 1 of 5;weighs:debt+snow;snowy 10;");
        e.due("today", tornBy(x, 0, 0), 1);
        x.days(1);
        e.due("tomorrow it snows", tornBy(x, 0, 0), 0);
        e.due("tomorrow it snows", tornBy(x, 1, 1), 1);
        x = Bench.told("planks 1 bear 9;person at 1;person;owes 0 to 1 of 5;weighs:12-debt;");
        e.due("torn, it would fall: it weighs as it does", tornBy(x, 12, 12), 1);
        x = Bench.told("planks 1 bear 9;person;person;owes 0 to 1 of 1;owes 1 to 0 of 99;");
        e.due("one of 1", tornBy(x, 0, 99), 1);
        e.due("one of 99", tornBy(x, 1, 0), 1);
        e.due("both", tornBy(x, -1, -1), 2);
    }

    private void torn() {
        e.says(36, "SEEN: how many papers.");
        DebtBridge x = Bench.told(THREE);
        e.due("none", tornBy(x, 9, -1, -1), 0);
        e.due("all", tornBy(x, -1, -1, -1), 4);
        e.due("no people, no numbers", tornBy(new DebtBridge()), 0);
        StringBuilder all = new StringBuilder("planks 2 bear 20;person;person;person;person;person;person;");
        for (int p = 0; p < 6; p++) {
            for (int q = 0; q < 6; q++) {
                all.append(p == q ? "" : "owes " + p + " to " + q + " of 5;");
            }
        }
        x = Bench.told(all.toString());
        e.due("most there can be", tornBy(x, -1, -1, -1, -1, -1, -1), 30);
        e.due("the last of these", x.tornAt(2, 29), 54);
        e.due("no more", x.tornAt(2, 30), -1);
        e.due("who tells most: each 25 of 30 alike", x.weighed(2), 0);
        e.says(36, "-2: the TRAY; -6; -4: not as many numbers as PEOPLE.");
        refused(y -> t -> y.torn(t));
    }

    private interface Asking {
        java.util.function.IntUnaryOperator of(DebtBridge x);
    }

    private void refused(Asking asking) {
        DebtBridge x = Bench.told(THREE);
        for (int tray : new int[] {-1, 4, LOW, HIGH}) {
            e.due("no tray " + tray, asking.of(x).applyAsInt(tray), -2);
        }
        for (int tray = 0; tray < 4; tray++) {
            e.due("missing " + tray, asking.of(x).applyAsInt(tray), -6);
        }
        for (int n : new int[] {0, 1, 2, 4, 40}) {
            x.numbers(0, 0, n);
            e.due(n + " numbers for 3 people", asking.of(x).applyAsInt(0), -4);
        }
        DebtBridge none = new DebtBridge();
        none.numbers(0, 0, 1);
        e.due("1 number for nobody", asking.of(none).applyAsInt(0), -4);
    }

    private void tornAt() {
        e.says(37, "The k-th of them, by who owes, then whom: 10 times who, and whom.");
        DebtBridge x = Bench.told(THREE);
        Bench.fill(x, 2, -1, -1, -1);
        int[] due = {1, 2, 12, 20};
        for (int k = 0; k < 4; k++) {
            e.due("of all, the " + k + "-th", x.tornAt(2, k), due[k]);
        }
        Bench.fill(x, 2, 10, -1, -1);
        e.due("of two, the first", x.tornAt(2, 0), 12);
        e.due("of two, the second", x.tornAt(2, 1), 20);
        e.says(37, "NONE: not so many; else as torn();");
        e.due("of two, a third", x.tornAt(2, 2), -1);
        e.due("far beyond", x.tornAt(2, HIGH), -1);
        Bench.fill(x, 2, 10, 3, 4);
        e.due("of none, the first", x.tornAt(2, 0), -1);
        refused(y -> t -> y.tornAt(t, 0));
        e.says(37, "-3: also k is below 0.");
        e.due("k -1", x.tornAt(2, -1), -3);
        e.due("k far below", x.tornAt(2, LOW), -3);
        refused(y -> t -> y.tornAt(t, -1));
    }

    private void weighed() {
        e.says(38, "The PERSON to be weighed that tells most: of what it WEIGHS by these papers the greatest number that is alike is least, the first.");
        DebtBridge x = Bench.told(THREE);
        Bench.fill(x, 2, -1, -1, -1);
        // by the four papers 0 weighs 5 5 10 10, 1: 3 3 0 3, 2: 4 4 4 0
        e.due("0: two alike at most", x.weighed(2), 0);
        Bench.fill(x, 2, 10, -1, -1);
        // by 12 and 20 0 weighs 10 10, 1: 0 3, 2: 4 0
        e.due("1 and 2 tell alike: the first", x.weighed(2), 1);
        Bench.fill(x, 2, 5, -1, -1);
        e.due("nobody tells the two: the first", x.weighed(2), 0);
        Bench.fill(x, 2, -1, 0, -1);
        e.due("one paper: the first, seen or not", x.weighed(2), 0);
        x = Bench.told(THREE + "weighs:debt*who+owed*3;");
        Bench.fill(x, 2, -1, -1, -1);
        // 2 weighs otherwise by each paper: 32 17 23 24
        e.due("the last one tells all", x.weighed(2), 2);
        x = Bench.told("planks 1 bear 9;person;person;person;person;owes 0 to 1 of 1;owes 0 to 2 of 2;owes 0 to 3 of 3;owes 3 to 0 of 4;");
        Bench.fill(x, 2, -1, -1, -1, -1);
        // 0 weighs 5 4 3 6, 3 weighs 4 4 4 0
        e.due("the first tells all", x.weighed(2), 0);
        x = Bench.told("planks 1 bear 9;person;person;person;person;owes 3 to 0 of 1;owes 3 to 1 of 1;owes 2 to 0 of 1;owes 2 to 1 of 2;owes 2 to 3 of 2;");
        Bench.fill(x, 2, -1, -1, -1, -1);
        // by 20 21 23 30 31: 2 weighs 4 3 3 5 5, 3 weighs 2 2 2 1 1
        e.due("two alike at most ahead of three", x.weighed(2), 2);
        x = Bench.told("planks 1 bear 9;person;person;person;owes 0 to 1 of 5;owes 1 to 0 of 3;owes 1 to 2 of 7;weighs:owed+debt*who*10;");
        Bench.fill(x, 2, -1, -1, -1);
        // by 01 10 12: 0 weighs 3 0 3, 1 weighs 100 75 35, 2 weighs 7 7 0
        e.due("all unlike ahead of two alike, apart from one another", x.weighed(2), 1);
        e.says(38, "NONE: there are none; else as torn().");
        x = Bench.told(THREE);
        Bench.fill(x, 2, 9999, -1, -1);
        e.due("none fits", x.weighed(2), -1);
        x = Bench.told("planks 1 bear 1;person;");
        Bench.fill(x, 2, -1);
        e.due("no papers", x.weighed(2), -1);
        x = new DebtBridge();
        x.numbers(2, 0, 0);
        e.due("no people", x.weighed(2), -1);
        refused(y -> t -> y.weighed(t));
    }

    private void chanceIs(DebtBridge x, int n, long above, long below) {
        e.due("above in " + n, x.chance(0, n, 0), above);
        e.due("below in " + n, x.chance(0, n, 1), below);
    }

    private void chanceTerm() {
        e.says(TERMS, "CHANCE: it snows on each of the n DAYS behind this one as likely as snowy tells, each by itself: "
            + "how likely one gets OVER ALONE (debts, PLANKS as now) on one of them at least.");
        // only with snow
        DebtBridge x = Bench.told("planks 1 bear 5;person;weighs:9-snow*5;snowy 3;");
        chanceIs(x, 1, 3, 10);
        chanceIs(x, 2, 51, 100);
        x.seed(77);
        chanceIs(x, 2, 51, 100);
        // today aside: it gets over today, but on none of the days behind
        x = Bench.told("planks 1 bear 5;person;weighs:day*9;day 0;");
        e.due("today it does", x.alone(0), -1);
        chanceIs(x, 6, 0, 1);
        chanceIs(x, 7, 1, 1);
        // only without snow, on day 1 of each week
        x = Bench.told("planks 1 bear 5;person;weighs:9*snow;snowy 3;day 6;lets:day=1;");
        chanceIs(x, 1, 0, 1);
        chanceIs(x, 2, 7, 10);
        chanceIs(x, 8, 7, 10);
        chanceIs(x, 9, 91, 100);
        x = Bench.told("planks 1 bear 5;person;person at 1;weighs:who*9;snowy 5;");
        chanceIs(x, 15, 0, 1);
        x.mend(0);
        chanceIs(x, 1, 1, 1);
        x = Bench.told("planks 1 bear 5;person;weighs:9-snow*5;snowy 10;");
        chanceIs(x, 1, 1, 1);
        x = Bench.told("planks 1 bear 5;person;weighs:9-snow*5;snowy 0;");
        chanceIs(x, 15, 0, 1);
        x = Bench.told("planks 1 bear 5;person;lets:snow=1;snowy 2;");
        chanceIs(x, 1, 1, 5);
        x = Bench.told("planks 1 bear 5;person;lets:snow=0;snowy 2;");
        chanceIs(x, 1, 4, 5);
        x = Bench.told("planks 1 bear 5;person;person;person;weighs:who*9;lets:who<1 or snow=1 and who=1;snowy 2;");
        e.due("of another one", x.chance(1, 1, 0), 0);
        e.due("of the first one", x.chance(0, 1, 0), 1);
        x = Bench.told("planks 1 bear 5;person;person;weighs:9-who*9;");
        e.due("of the second one", x.chance(1, 1, 0), 1);
        e.due("of the second one, likely", x.likely(1, 100), 1);
        e.due("of the first one", x.chance(0, 1, 0), 0);
        x = Bench.told("planks 1 bear 5;person;weighs:9-snow*5;");
        chanceIs(x, 15, 0, 1);
    }

    private void chance() {
        e.says(39, "CHANCE in n DAYS (0 to 15), what 0: the number above, 1: below, in lowest terms.");
        DebtBridge x = Bench.told("planks 1 bear 5;person;weighs:9-snow*5;snowy 3;");
        chanceIs(x, 0, 0, 1);
        chanceIs(x, 15, 1000000000000000L - 4747561509943L, 1000000000000000L);
        x = Bench.told("planks 1 bear 5;person;weighs:9-snow*5;snowy 5;");
        chanceIs(x, 1, 1, 2);
        chanceIs(x, 15, 32767, 32768);
        x = Bench.told("planks 1 bear 5;person;weighs:9-snow*5;snowy 8;");
        chanceIs(x, 2, 24, 25);
        x = Bench.told("planks 1 bear 5;person;");
        chanceIs(x, 0, 0, 1);
        chanceIs(x, 15, 1, 1);
        e.due("the day stays", x.count(8) + x.count(9) + x.count(10), 0);
        e.says(39, "-2: the PERSON, what; -3: n.");
        for (int p : new int[] {-1, 1, 6, LOW, HIGH}) {
            e.due("no person " + p, x.chance(p, 1, 0), -2);
            e.due("no person " + p + ", ahead of n", x.chance(p, 16, 1), -2);
        }
        for (int what : new int[] {-1, 2, LOW, HIGH}) {
            e.due("what " + what, x.chance(0, 1, what), -2);
            e.due("what " + what + ", ahead of n", x.chance(0, -1, what), -2);
        }
        for (int n : new int[] {-1, 16, LOW, HIGH}) {
            e.due("n " + n, x.chance(0, n, 0), -3);
            e.due("n " + n, x.chance(0, n, 1), -3);
        }
    }

    private void likely() {
        e.says(40, "The fewest DAYS (0 to 15) in which CHANCE is m in 100 (0 to 100) at least.");
        DebtBridge x = Bench.told("planks 1 bear 5;person;weighs:9-snow*5;snowy 5;");
        int[][] due = {{0, 0}, {1, 1}, {50, 1}, {51, 2}, {75, 2}, {76, 3}, {87, 3}, {88, 4}, {99, 7}};
        for (int[] one : due) {
            e.due(one[0] + " in 100", x.likely(0, one[0]), one[1]);
        }
        e.due("100 in 100, for sure tomorrow", Bench.told("planks 1 bear 5;person;").likely(0, 100), 1);
        x = Bench.told("planks 1 bear 5;person;weighs:day*9;day 6;");
        e.due("100 in 100, in one day", x.likely(0, 100), 1);
        x = Bench.told("planks 1 bear 5;person;weighs:day*9;day 0;");
        e.due("100 in 100, in a week", x.likely(0, 100), 7);
        x = Bench.told("planks 1 bear 5;person;weighs:9-snow*5;snowy 1;");
        // 1 less 0.9 to the 15th is 0.794, to the 14th 0.771
        e.due("77: the 14th day", x.likely(0, 77), 14);
        e.due("78: the 15th day", x.likely(0, 78), 15);
        e.due("79: the 15th day", x.likely(0, 79), 15);
        e.says(40, "NONE: none are; -2; -3.");
        e.due("80", x.likely(0, 80), -1);
        e.due("100", x.likely(0, 100), -1);
        x = Bench.told("planks 1 bear 5;person;weighs:9;");
        e.due("never 1 in 100", x.likely(0, 1), -1);
        e.due("but 0 in 100", x.likely(0, 0), 0);
        for (int p : new int[] {-1, 1, 6, LOW, HIGH}) {
            e.due("no person " + p, x.likely(p, 50), -2);
            e.due("no person " + p + ", ahead of m", x.likely(p, 101), -2);
        }
        for (int m : new int[] {-1, 101, LOW, HIGH}) {
            e.due("m " + m, x.likely(0, m), -3);
        }
    }
}
