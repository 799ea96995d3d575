/** The terms that tell of getting over, and promises 19 to 25. */
final class OverEdges {
    private static final int TERMS = Edge.TERMS;
    private static final int LOW = Integer.MIN_VALUE;
    private static final int HIGH = Integer.MAX_VALUE;
    private static final String SIX = "person;person;person;person;person;person;";

    private final Edge e;

    private OverEdges(Edge e) {
        this.e = e;
    }

    static void run(Edge e) {
        OverEdges t = new OverEdges(e);
        t.overAlone();
        t.alone();
        t.able();
        t.tears();
        t.rowTerm();
        t.row();
        t.rowRefused();
        t.order();
        t.orders();
        t.apart();
    }

    private static int alone(String text) {
        return Bench.told(text).alone(0);
    }

    private void overAlone() {
        e.says(TERMS, "==== 3. OVER ALONE: from the west bank to the east, nobody else on it, today, PLANKS as they are");
        // wherever it is, as from the west bank: 5 on 5, and 5 more of another one beside it
        DebtBridge x = Bench.told("planks 3 bear 9;person at 3;person at 1;person at 4;weighs:9-who*4;");
        for (int p = 0; p < 3; p++) {
            e.due("wherever they stand: " + p, x.alone(p), -1);
        }
        e.due("nobody else: no others", alone("planks 3 bear 9;person;person at 1;lets:others=0;"), -1);
        x = Bench.told("planks 1 bear 9;person;weighs:day*5;snowy 10;day 1;");
        e.due("today: 5 on 9", x.alone(0), -1);
        x.days(1);
        e.due("today: 10 on 9", x.alone(0), 0);
        x.mend(0);
        e.due("planks as they are: 10 on 19", x.alone(0), -1);
        e.says(TERMS, "(whoever it owes, FALLEN or not):");
        x = Bench.told("planks 2 bear 9;person;person;owes 0 to 1 of 5;owes 1 to 0 of 5;");
        e.due("a step can't be", x.step(0, true), -14);
        e.due("alone it gets over", x.alone(0), -1);
        x = Bench.told("planks 2 bear 9;person at 1;person;owes 0 to 1 of 10;");
        e.due("it is fallen", x.person(0, 0), -1);
        x.mend(0);
        x.tear(0, 1);
        e.due("the fallen, too", x.alone(0), -1);
        e.says(TERMS, "it comes to no PLANK that is BROKEN, or where it mayn't, or that BREAKS under it (or beside it).");
        e.due("broken", alone("planks 3 bear 9;person;person at 3;weighs:who*10;"), 2);
        e.due("it mayn't", alone("planks 3 bear 9;person;lets:not plank=1;"), 1);
        e.due("breaks under it", alone("planks 3 bear 9;plank 1 bears 4;person;weighs:5;"), 1);
        e.due("breaks beside it", alone("planks 3 bear 9;plank 1 bears 2;person;weighs:6;"), 1);
        e.due("as much as it bears", alone("planks 3 bear 9;person;weighs:9;"), -1);
        e.due("the last one", alone("planks 8 bear 9;plank 7 bears 8;person;weighs:9;"), 7);
    }

    private void alone() {
        e.says(19, "The first PLANK because of which one doesn't get OVER ALONE (where it would come to: BROKEN, it mayn't; or that would BREAK first).");
        e.due("a broken one ahead of a weak one", alone("planks 3 bear 9;plank 2 bears 4;person;person at 2;weighs:5+who*5;"), 1);
        e.due("a weak one ahead of a broken one", alone("planks 3 bear 9;plank 1 bears 4;person;person at 3;weighs:5+who*5;"), 1);
        e.due("it mayn't, ahead of a weak one", alone("planks 3 bear 9;plank 2 bears 4;person;weighs:5;lets:plank=0;"), 1);
        e.due("a weak one ahead of where it mayn't", alone("planks 3 bear 9;plank 1 bears 4;person;weighs:5;lets:plank<2;"), 1);
        e.due("plank 0", alone("planks 3 bear 4;person;weighs:5;"), 0);
        e.says(19, "NONE: it gets over; -2.");
        DebtBridge x = Bench.told("planks 1 bear 0;person;person;weighs:who;");
        e.due("over", x.alone(0), -1);
        e.due("not over", x.alone(1), 0);
        for (int p : new int[] {-1, 2, 6, LOW, HIGH}) {
            e.due("no person " + p, x.alone(p), -2);
        }
        e.due("nobody is told", new DebtBridge().alone(0), -2);
    }

    private void able() {
        e.says(20, "Who gets OVER ALONE, as bits.");
        e.due("no people", new DebtBridge().able(), 0);
        e.due("all six", Bench.told("planks 2 bear 9;" + SIX).able(), 63);
        e.due("none of six", Bench.told("planks 2 bear 9;" + SIX + "weighs:10;").able(), 0);
        e.due("0, 2 and 5", Bench.told("planks 2 bear 9;" + SIX + "weighs:9+(who-2)*(5-who)*who;").able(), 1 + 2 + 4 + 32);
        e.due("5 alone", Bench.told("planks 2 bear 9;" + SIX + "weighs:14-who;").able(), 32);
    }

    private void tears() {
        e.says(21, "The fewest of its papers to be TORN so that one gets OVER ALONE, what 0: how many, 1: to whom, as bits (of like ones the least set).");
        DebtBridge x = Bench.told("planks 2 bear 9;" + SIX + "owes 0 to 1 of 9;owes 0 to 2 of 9;owes 0 to 3 of 9;owes 0 to 4 of 9;owes 0 to 5 of 9;"
            + "owes 1 to 0 of 9;owes 2 to 5 of 10;owes 3 to 4 of 5;owes 3 to 5 of 9;");
        e.due("four of five", x.tears(0, 0), 4);
        e.due("the least set of like ones", x.tears(0, 1), 2 + 4 + 8 + 16);
        e.due("none needed", x.tears(1, 0), 0);
        e.due("none needed: nobody", x.tears(1, 1), 0);
        e.due("its only one", x.tears(2, 0) * 100 + x.tears(2, 1), 132);
        DebtBridge y = Bench.told("planks 2 bear 9;person;person;person;owes 2 to 0 of 10;owes 2 to 1 of 9;");
        e.due("to the first one", y.tears(2, 0) * 100 + y.tears(2, 1), 101);
        e.due("either would do: the least set", x.tears(3, 1), 16);
        x = Bench.told("planks 2 bear 9;" + SIX + "owes 0 to 1 of 3;owes 0 to 2 of 4;owes 0 to 5 of 7;");
        e.due("one of 7 ahead of two of 3 and 4", x.tears(0, 0) * 100 + x.tears(0, 1), 132);
        x = Bench.told("planks 2 bear 9;" + SIX + "owes 0 to 1 of 8;owes 0 to 2 of 9;owes 0 to 5 of 9;weighs:10*papers;");
        e.due("all", x.tears(0, 0) * 100 + x.tears(0, 1), 338);
        e.due("nothing is torn", x.count(5), 3);
        x = Bench.told("planks 1 bear 9;person;person at 1;owes 0 to 1 of 12;weighs:debt+9-owed;");
        e.due("planks as they are: torn, 1 would break it", x.tears(0, 0), 1);
        e.says(21, "NONE: by none; -2.");
        x = Bench.told("planks 2 bear 9;person;person;owes 0 to 1 of 5;weighs:10+who-who;");
        e.due("too heavy without any", x.tears(0, 0), -1);
        e.due("too heavy without any", x.tears(0, 1), -1);
        e.due("no papers", x.tears(1, 0), -1);
        e.due("the law", Bench.told("planks 2 bear 9;person;lets:1=2;").tears(0, 0), -1);
        for (int p : new int[] {-1, 2, 6, LOW, HIGH}) {
            e.due("no person " + p, x.tears(p, 0), -2);
        }
        for (int what : new int[] {-1, 2, LOW, HIGH}) {
            e.due("what " + what + ", ahead of NONE", x.tears(0, what), -2);
        }
    }

    private static int rowOf(DebtBridge x, long... people) {
        Bench.fill(x, 1, people);
        return x.row(1);
    }

    private void rowTerm() {
        e.says(TERMS, "A ROW of PEOPLE over: in step 1 the first one is on PLANK 0, in each further one all are one PLANK on, "
            + "and the next one comes to PLANK 0, till the last one is on the east bank;");
        DebtBridge x = Bench.told("planks 3 bear 9;person;person;person;weighs:6-who;");
        // 6 and 5 behind it: 5 + 3 on the plank behind, 6 + 2 ahead; in the middle 5 + (6 + 4) / 2
        e.due("two", rowOf(x, 0, 1), -1);
        e.due("three: the middle one on plank 1", rowOf(x, 0, 1, 2), 1);
        x = Bench.told("planks 2 bear 9;plank 1 bears 6;person;person;weighs:4+who;");
        // the last one alone on plank 1 at last, the first one ahead of it: 4 + 2
        e.due("the light one first", rowOf(x, 0, 1), -1);
        e.due("the heavy one first: 5 + 2", rowOf(x, 1, 0), 1);
        x = Bench.told("planks 2 bear 20;plank 1 bears 8;person;person;weighs:4+who*5;");
        e.due("till the last one is over: 9 on 8 in the end", rowOf(x, 0, 1), 1);
        x = Bench.told("planks 1 bear 9;" + SIX + "weighs:9;");
        e.due("one plank, six people: nobody beside", rowOf(x, 0, 1, 2, 3, 4, 5), -1);
        e.says(TERMS, "nobody else on it, today; whom the law lets, who owes whom aside:");
        x = Bench.told("planks 2 bear 9;person at 1;person at 2;person at 1;weighs:4-who*2;");
        e.due("nobody else", rowOf(x, 0), -1);
        x = Bench.told("planks 2 bear 9;person;person;owes 0 to 1 of 5;owes 1 to 0 of 5;lets:1=2;");
        e.due("the law and who owes aside", rowOf(x, 0, 1), -1);
        x = Bench.told("planks 2 bear 9;person;weighs:day*5;day 1;");
        e.due("today", rowOf(x, 0), -1);
        x.days(1);
        e.due("tomorrow", rowOf(x, 0), 0);
        x.undo(1);
        e.due("undone: today", rowOf(x, 0), -1);
        e.says(TERMS, "no PLANK that isn't BROKEN has a LOAD above what it BEARS, nobody comes to one that is.");
        x = Bench.told("planks 2 bear 9;person;person;weighs:9-who*9;");
        e.due("as much as it bears", rowOf(x, 0, 1), -1);
        x = Bench.told("planks 3 bear 9;plank 1 bears 2;person;weighs:6;");
        e.due("a load beside it", rowOf(x, 0), 1);
        x = Bench.told("planks 3 bear 9;person;person at 3;weighs:6+who*4;");
        e.due("a broken one may have a load; it comes to it", rowOf(x, 0), 2);
        x = Bench.told("planks 3 bear 9;plank 1 bears 2;person;person at 1;weighs:6;");
        e.due("1 broke plank 1 beside it", x.count(7), 2);
        e.due("no load breaks a broken one; it comes to it", rowOf(x, 0), 1);
    }

    private void row() {
        e.says(22, "The PLANK (of one step the first) that BREAKS first, or is BROKEN where one comes to, of the ROW in a TRAY.");
        DebtBridge x = Bench.told("planks 4 bear 9;plank 3 bears 3;person;person;person;person at 3;weighs:5+who*3;");
        // 3 broke plank 2 (14 on 9); 0, 1, 2 weigh 5, 8, 11
        e.due("plank 2 is broken", x.count(7), 4);
        e.due("0 comes to plank 2", rowOf(x, 0), 2);
        e.due("2 is too heavy for plank 0", rowOf(x, 2), 0);
        e.due("in an earlier step a later plank: 0 behind 1 on plank 0 is 5 + 4", rowOf(x, 1, 0), 1);
        e.due("of one step the first: 2 on plank 0 as 0 comes to plank 2", rowOf(x, 0, 2), 0);
        x = Bench.told("planks 3 bear 9;person;person;person;person at 3;person;weighs:(who-1)*5;");
        // 3 broke plank 2 (10 on 9); 0 and 1 weigh nothing, 2 weighs 5, 4 weighs 15
        e.due("0 comes to plank 2 as 4 comes to plank 0: the first of both", rowOf(x, 0, 1, 4), 0);
        e.due("0 comes to plank 2 a step ahead of 4 on plank 0", rowOf(x, 0, 1, 2, 4), 2);
        e.says(22, "NONE: they get over; -2: the TRAY; -6;");
        x = Bench.told("planks 8 bear 9;" + SIX);
        e.due("over", rowOf(x, 5, 4, 3, 2, 1, 0), -1);
        for (int tray : new int[] {-1, 4, LOW, HIGH}) {
            e.due("no tray " + tray, x.row(tray), -2);
        }
        e.due("missing 0", x.row(0), -6);
        e.due("missing 3", x.row(3), -6);
    }

    private void rowRefused() {
        e.says(22, "-4: not 1 to 6 numbers;");
        DebtBridge x = Bench.told("planks 2 bear 9;" + SIX);
        e.due("none", rowOf(x), -4);
        e.due("one", rowOf(x, 0), -1);
        e.due("six", rowOf(x, 0, 1, 2, 3, 4, 5), -1);
        e.due("seven", rowOf(x, 0, 1, 2, 3, 4, 5, 6), -4);
        e.due("seven, ahead of one that stands there twice", rowOf(x, 0, 0, 0, 0, 0, 0, 0), -4);
        e.due("forty", rowOf(x, new long[40]), -4);
        e.says(22, "-3: one is no PERSON, one stands there twice.");
        x = Bench.told("planks 2 bear 9;person;person;person;");
        for (long v : new long[] {-1, 3, 6, 64, 1L << 32, (1L << 32) + 1, Long.MIN_VALUE, Long.MAX_VALUE, LOW, HIGH}) {
            e.due("no person " + v, rowOf(x, v), -3);
            e.due("no person behind others " + v, rowOf(x, 0, 1, v), -3);
        }
        e.due("twice", rowOf(x, 1, 1), -3);
        e.due("twice, apart", rowOf(x, 1, 0, 2, 1), -3);
    }

    private void order() {
        e.says(23, "The first ROW, by its PEOPLE, of all of a set (as bits) by which they get over: the i-th of it (from 0 on).");
        DebtBridge x = Bench.told("planks 3 bear 9;plank 1 bears 5;person;person;person;person;weighs:4-who;");
        // only 2 can be between 0 and 1: 2 + 3 on plank 1
        e.due("0 1 2: the first of it", x.order(7, 0), 0);
        e.due("the second", x.order(7, 1), 2);
        e.due("the third", x.order(7, 2), 1);
        e.due("one alone", x.order(8, 0), 3);
        x = Bench.told("planks 3 bear 9;" + SIX);
        for (int i = 0; i < 6; i++) {
            e.due("all of six", x.order(63, i), i);
        }
        x = Bench.told("planks 2 bear 9;plank 1 bears 6;" + SIX + "weighs:5-who;");
        // ahead on plank 1 with half of the one behind: the heavy one has to be last
        e.due("not 0 ahead of 1", x.order(3, 0) * 10 + x.order(3, 1), 10);
        e.says(23, "NONE: there is none, not so many;");
        e.due("not so many", x.order(3, 2), -1);
        e.due("not so many", x.order(63, 6), -1);
        e.due("not so many", x.order(1, HIGH), -1);
        x = Bench.told("planks 2 bear 9;person;person;person;weighs:8+who;");
        e.due("2 is too heavy", x.order(4, 0), -1);
        e.due("none of both", x.order(3, 0), -1);
        e.due("alone each", x.order(2, 0), 1);
        e.says(23, "-3: the set is empty, has others than PEOPLE, i is below 0.");
        e.due("empty", x.order(0, 0), -3);
        for (int set : new int[] {8, 9, 15, 64, -1, LOW, HIGH, 1 << 30}) {
            e.due("others: " + set, x.order(set, 0), -3);
        }
        e.due("i -1", x.order(1, -1), -3);
        e.due("i far below", x.order(1, LOW), -3);
        e.due("i below 0, ahead of NONE", x.order(4, -1), -3);
        e.due("nobody is told", new DebtBridge().order(1, 0), -3);
    }

    private void orders() {
        e.says(24, "In how many ROWS a set gets over.");
        DebtBridge x = Bench.told("planks 8 bear 9;" + SIX);
        e.due("all of six", x.orders(63), 720);
        e.due("one", x.orders(32), 1);
        e.due("two", x.orders(33), 2);
        x = Bench.told("planks 3 bear 9;plank 1 bears 5;person;person;person;weighs:4-who;");
        e.due("0 2 1 and 1 2 0", x.orders(7), 2);
        x = Bench.told("planks 3 bear 3;person;person;person;weighs:4-who;");
        e.due("none: 0 is too heavy", x.orders(7), 0);
        e.due("none: 3 + 1", x.orders(6), 0);
        x = Bench.told("planks 3 bear 9;person;person;person at 2;weighs:who*5;");
        e.due("a broken plank", x.orders(1), 0);
        x = Bench.told("planks 2 bear 9;person;person;owes 0 to 1 of 10;");
        x.tear(0, 1);
        x.undo(1);
        e.due("by what it weighs now, undone", x.orders(1), 0);
        rowByRow();
        e.says(24, "-3.");
        e.due("empty", x.orders(0), -3);
        for (int set : new int[] {8, 9, 15, 64, -1, LOW, HIGH, 1 << 30}) {
            e.due("others: " + set, x.orders(set), -3);
        }
        e.due("nobody is told", new DebtBridge().orders(1), -3);
    }

    /** As many as row() lets over, and order() tells the first of these. */
    private void rowByRow() {
        int[][] bears = {{9}, {8, 9}, {9, 8}, {7, 9, 8}, {9, 7, 9}, {8, 8, 8}, {6, 9, 9}, {9, 9, 6}, {9, 6, 8, 9}, {7, 9, 9, 7}, {20, 9, 20}, {9, 20, 20}, {20, 20, 9}};
        String[] laws = {"6-who", "3+who", "4+who*who-who*2", "7-who*2", "5", "6-3*who", "2+who*2", "1+who*3", "8-who*4"};
        for (int[] planks : bears) {
            for (String law : laws) {
                StringBuilder text = new StringBuilder("planks " + planks.length + " bear 0;person;person;person;weighs:" + law + ";");
                for (int k = 0; k < planks.length; k++) {
                    text.append("plank ").append(k).append(" bears ").append(planks[k]).append(";");
                }
                DebtBridge x = Bench.told(text.toString());
                int[][] all = {{0, 1, 2}, {0, 2, 1}, {1, 0, 2}, {1, 2, 0}, {2, 0, 1}, {2, 1, 0}};
                int many = 0;
                int first = -1;
                for (int i = 5; i >= 0; i--) {
                    if (rowOf(x, all[i][0], all[i][1], all[i][2]) == -1) {
                        many++;
                        first = all[i][0] * 100 + all[i][1] * 10 + all[i][2];
                    }
                }
                e.due("orders of " + text, x.orders(7), many);
                e.due("order of " + text, many == 0 ? x.order(7, 0) : x.order(7, 0) * 100 + x.order(7, 1) * 10 + x.order(7, 2), first);
                e.due("two of " + text, x.orders(3), (rowOf(x, 0, 1) == -1 ? 1 : 0) + (rowOf(x, 1, 0) == -1 ? 1 : 0));
            }
        }
    }

    private void apart() {
        e.says(25, "How many PLANKS (0 to 8) have to be between two, the first one ahead, at least, that both get over as a ROW does "
            + "(the second one comes to PLANK 0 so many and one steps later).");
        DebtBridge x = Bench.told("planks 3 bear 9;person;person;person;weighs:6+who;");
        e.due("6 + 3 on 9: side by side can be with 6, not with 7", x.apart(0, 1), 1);
        e.due("none between: 6 + 0", Bench.told("planks 3 bear 9;person;person;weighs:6;").apart(1, 0), 0);
        // plank 1 bears half of both together, not 8 + 4; two between: 8 beside nothing
        x = Bench.told("planks 8 bear 8;person;person;weighs:8;");
        e.due("one between: half of 16 on 8", x.apart(0, 1), 1);
        x = Bench.told("planks 8 bear 9;plank 4 bears 8;person;person;weighs:9-who*9;");
        e.due("too heavy whatever is between", x.apart(0, 1), -1);
        x = Bench.told("planks 2 bear 9;plank 0 bears 6;person;person;weighs:6-3*who;");
        e.due("the light one behind", x.apart(0, 1), 0);
        e.due("the light one ahead: 6 + 1 on plank 0", x.apart(1, 0), 1);
        x = Bench.told("planks 1 bear 9;person;person;weighs:9;");
        e.due("one plank: nobody is beside", x.apart(0, 1), 0);
        x = Bench.told("planks 2 bear 9;person;person;owes 0 to 1 of 1;owes 1 to 0 of 1;lets:1=2;");
        e.due("the law and who owes aside", x.apart(0, 1), 0);
        e.says(25, "NONE: they don't whatever is between; -2: PEOPLE, both one.");
        x = Bench.told("planks 2 bear 9;person;person;weighs:9+who;");
        e.due("1 is too heavy", x.apart(0, 1), -1);
        e.due("1 is too heavy", x.apart(1, 0), -1);
        x = Bench.told("planks 2 bear 9;person;person;person at 1;weighs:who*5;");
        e.due("a broken plank", x.apart(0, 1), -1);
        for (int p : new int[] {-1, 3, 6, LOW, HIGH}) {
            e.due("no person " + p, x.apart(p, 0), -2);
            e.due("no person " + p, x.apart(0, p), -2);
        }
        e.due("both one", x.apart(0, 0), -2);
        e.due("both one", x.apart(2, 2), -2);
    }
}
