/** The terms that tell what people weigh and planks bear, and promises 5 to 7. */
final class BridgeEdges {
    private static final int TERMS = Edge.TERMS;
    private static final String SIX = "planks 2 bear 999;person;person;person;person;person;person;";
    private static final int LOW = Integer.MIN_VALUE;
    private static final int HIGH = Integer.MAX_VALUE;
    // a million, told with numbers of three digits
    private static final String MILLION = "(999*999+999+999+1)";

    private final Edge e;

    private BridgeEdges(Edge e) {
        this.e = e;
    }

    static void run(Edge e) {
        BridgeEdges t = new BridgeEdges(e);
        t.person();
        t.owes();
        t.plank();
        t.debts();
        t.weighs();
        t.days();
        t.kept();
        t.load();
        t.bears();
        t.breaks();
        t.fallen();
        t.lets();
        t.others();
    }

    private void person() {
        e.says(5, "Of a PERSON, what 0: its PLACE (NONE: FALLEN),");
        DebtBridge x = Bench.told("planks 2 bear 5;person;person at 1;person at 3;weighs:who*6;");
        e.due("west", x.person(0, 0), 0);
        e.due("fallen", x.person(1, 0), -1);
        e.due("east", x.person(2, 0), 3);
        e.says(5, "1: DEBT, 2: PAPERS, 3: OWED, 4: what it WEIGHS.");
        x = Bench.told(SIX + "owes 0 to 1 of 99;owes 0 to 2 of 99;owes 0 to 3 of 99;owes 0 to 4 of 99;owes 0 to 5 of 99;"
            + "owes 1 to 5 of 99;owes 2 to 5 of 99;owes 3 to 5 of 99;owes 4 to 5 of 99;");
        e.due("all it can owe", x.person(0, 1), 495);
        e.due("by all", x.person(0, 2), 5);
        e.due("nothing owed", x.person(0, 3), 0);
        e.due("weighs", x.person(0, 4), 495);
        e.due("owes nothing", x.person(5, 1), 0);
        e.due("by none", x.person(5, 2), 0);
        e.due("all it can be owed", x.person(5, 3), 495);
        e.due("weighs nothing", x.person(5, 4), 0);
        e.says(5, "-2.");
        for (int p : new int[] {-1, 6, 7, LOW, HIGH}) {
            e.due("person " + p, x.person(p, 0), -2);
        }
        for (int what : new int[] {-1, 5, LOW, HIGH}) {
            e.due("what " + what, x.person(0, what), -2);
        }
        e.due("the last one there is", x.person(5, 0), 0);
        x = Bench.told("planks 2 bear 5;person;person;");
        e.due("two are told", x.person(2, 0), -2);
        e.due("nobody is told", new DebtBridge().person(0, 0), -2);
    }

    private void owes() {
        e.says(6, "How much one owes another one (itself: 0).");
        DebtBridge x = Bench.told("planks 2 bear 99;person;person;person;owes 0 to 1 of 99;owes 2 to 1 of 1;");
        e.due("99", x.owes(0, 1), 99);
        e.due("1", x.owes(2, 1), 1);
        e.due("nothing", x.owes(1, 0), 0);
        for (int p = 0; p < 3; p++) {
            e.due("itself", x.owes(p, p), 0);
        }
        e.says(6, "-2.");
        for (int p : new int[] {-1, 3, 6, LOW, HIGH}) {
            e.due(p + " to 0", x.owes(p, 0), -2);
            e.due("0 to " + p, x.owes(0, p), -2);
            e.due("itself, but there is none such", x.owes(p, p), -2);
        }
        e.due("nobody is told", new DebtBridge().owes(0, 0), -2);
    }

    private void plank() {
        e.says(7, "Of a PLANK, what 0: what it BEARS, 1: its LOAD, 2: 1 if BROKEN, else 0, 3: how often it was MENDED whole.");
        DebtBridge x = Bench.told("planks 3 bear 9;plank 2 bears 4;person at 1;person at 3;weighs:5;");
        int[][] due = {{9, 5, 0, 0}, {9, 2, 0, 0}, {4, 0, 1, 0}};
        for (int k = 0; k < 3; k++) {
            for (int what = 0; what < 4; what++) {
                e.due("plank(" + k + ", " + what + ")", x.plank(k, what), due[k][what]);
            }
        }
        x.mend(1);
        e.due("bears 10 more", x.plank(1, 0), 19);
        e.due("mended whole", x.plank(1, 3), 1);
        x.mend(2);
        e.due("broken no more", x.plank(2, 2), 0);
        e.due("that was not whole", x.plank(2, 3), 0);
        x = Bench.told("planks 2 bear 2;person at 1;person at 2;weighs:3+who*3;");
        e.due("a broken one", x.plank(0, 2), 1);
        x = Bench.told("planks 2 bear 9;plank 0 bears 2;person at 2;weighs:6;");
        e.due("a broken one has a load, too", x.plank(0, 2) * 10 + x.plank(0, 1), 13);
        DebtBridge y = Bench.told("planks 2 bear 9;person at 1;person;owes 0 to 1 of 5;");
        y.image(0);
        y.tear(0, 1);
        e.due("its load, torn", y.plank(0, 1), 0);
        y.undo(1);
        e.due("its load, undone", y.plank(0, 1), 5);
        y.tear(0, 1);
        y.restore(0);
        e.due("its load, restored", y.plank(0, 1), 5);
        e.says(7, "-2.");
        for (int k : new int[] {-1, 2, 8, LOW, HIGH}) {
            e.due("plank " + k, x.plank(k, 0), -2);
        }
        for (int what : new int[] {-1, 4, LOW, HIGH}) {
            e.due("what " + what, x.plank(0, what), -2);
        }
        e.due("the last one there is", x.plank(1, 0), 9);
        e.due("the last of eight", Bench.told("planks 8 bear 3;").plank(7, 0), 3);
        e.due("beyond eight", Bench.told("planks 8 bear 3;").plank(8, 0), -2);
    }

    private void debts() {
        e.says(TERMS, "==== 2. A PERSON's DEBT: all it owes; its PAPERS: how many it owes by; OWED: all it is owed.");
        DebtBridge x = Bench.told("planks 1 bear 3;person at 1;person;person;owes 0 to 1 of 7;owes 0 to 2 of 9;owes 1 to 0 of 2;");
        e.due("debt, fallen", x.person(0, 1), 16);
        e.due("papers", x.person(0, 2), 2);
        e.due("owed by 1", x.person(0, 3), 2);
        e.due("owed by the fallen", x.person(2, 3), 9);
        x.tear(0, 2);
        e.due("a paper less", x.person(0, 2), 1);
        e.due("debt", x.person(0, 1), 7);
        e.due("owed nothing then", x.person(2, 3), 0);
    }

    private void weighs() {
        e.says(TERMS, "It WEIGHS as the law weighs tells, 0 at least, 9,999 at most (without one: its DEBT):");
        e.due("-1", weight("0-1"), 0);
        e.due("0", weight("0"), 0);
        e.due("1", weight("1"), 1);
        e.due("9,998", weight("909*11-1"), 9998);
        e.due("9,999", weight("909*11"), 9999);
        e.due("10,000", weight("909*11+1"), 9999);
        e.due("a million", weight("999*999*999"), 9999);
        e.due("a million below 0", weight("0-999*999*999"), 0);
        DebtBridge x = Bench.told("planks 1 bear 3;person;person;owes 0 to 1 of 7;");
        e.due("without a law", x.person(0, 4), 7);
        e.due("owes nothing", x.person(1, 4), 0);
        e.says(TERMS, "debt, papers, owed: these, who: its number,");
        x = Bench.told("planks 1 bear 3;person;person;person;owes 1 to 0 of 7;owes 1 to 2 of 8;owes 2 to 1 of 4;owes 0 to 1 of 5;"
            + "weighs:debt*100+papers*40+owed*2+who;");
        e.due("0", x.person(0, 4), 500 + 40 + 14);
        e.due("1", x.person(1, 4), 1500 + 80 + 18 + 1);
        e.due("2", x.person(2, 4), 400 + 40 + 16 + 2);
    }

    private static int weight(String law) {
        return Bench.told("planks 1 bear 0;person;weighs:" + law + ";").person(0, 4);
    }

    private void days() {
        e.says(TERMS, "day: DAY modulo 7,");
        int[] days = {0, 1, 6, 7, 8, 13, 14, 999};
        for (int day : days) {
            DebtBridge x = Bench.told("planks 1 bear 9;person;weighs:day;lets:day=" + day % 7 + ";day " + day + ";");
            e.due("weighs on day " + day, x.person(0, 4), day % 7);
            e.due("lets on day " + day, x.alone(0), -1);
        }
        DebtBridge x = Bench.told("planks 1 bear 9;person;weighs:day;day 6;");
        x.days(1);
        e.due("from 6 to 7", x.person(0, 4), 0);
        e.says(TERMS, "snow: 1, if it snows today (at first it doesn't), else 0.");
        x = Bench.told("planks 1 bear 9;person;weighs:5+snow;lets:snow=0;snowy 10;");
        e.due("at first", x.count(9), 0);
        e.due("at first", x.person(0, 4), 5);
        e.due("lets", x.alone(0), -1);
        x.days(1);
        e.due("it snows", x.person(0, 4), 6);
        e.due("lets", x.alone(0), 0);
        Bench.tell(x, "planks 1 bear 9;person;weighs:5+snow;snowy 10;");
        e.due("at first again", x.person(0, 4), 5);
        x = Bench.told("planks 1 bear 9;person;weighs:5+snow;snowy 1;");
        x.days(2);
        e.due("it snowed yesterday alone", x.person(0, 4), 5);
    }

    private void same(String left, String right, boolean alike) {
        DebtBridge x = Bench.told("planks 1 bear 0;person;weighs:(" + left + "-(" + right + "))*(" + left + "-(" + right + "));");
        e.due("weighs: " + left + " and " + right, x.person(0, 4) == 0 ? 1 : 0, alike ? 1 : 0);
        x = Bench.told("planks 1 bear 0;person;weighs:0;lets:" + left + "=" + right + ";");
        e.due("lets: " + left + " and " + right, x.alone(0) == -1 ? 1 : 0, alike ? 1 : 0);
    }

    private void kept() {
        e.says(TERMS, "In both laws each + - * is kept from -1,000,000 to 1,000,000.");
        same(MILLION + "+1", MILLION, true);
        same(MILLION + "-1", MILLION, false);
        same("999*999+999+999+0", "999*999+999+999+1", false);
        same("999*999+999+999+2", "999*999+999+999+1", true);
        same("0-" + MILLION + "-1", "0-" + MILLION, true);
        same("0-" + MILLION + "+1", "0-" + MILLION, false);
        same("999*999*2", MILLION, true);
        same("500*999*2", "999*999+999", true);
        same("500*999*2+1", "500*999*2", false);
        same("(0-999*999)*2", "0-" + MILLION, true);
        same(MILLION + "*" + MILLION, MILLION, true);
        same("(0-" + MILLION + ")*" + MILLION, "0-" + MILLION, true);
        // each by itself: what was cut doesn't come back
        same(MILLION + "+999-999", MILLION + "-999", true);
        same("0-" + MILLION + "-999+999", "0-" + MILLION + "+999", true);
        same("999*999*2-" + MILLION, "0", true);
    }

    private void load() {
        e.says(TERMS, "The LOAD of a PLANK: all that those on it WEIGH, and half (cut) of all that those on the PLANKS beside it WEIGH together.");
        DebtBridge x = Bench.told("planks 4 bear 99;person at 1;person at 3;person at 3;person at 4;person;person at 5;weighs:3+2*who;");
        // on them 3; nobody; 5 and 7; 9; on the banks 11 and 13
        e.due("the first one: the bank isn't beside", x.plank(0, 1), 3);
        e.due("3 and 12 beside: half of 15", x.plank(1, 1), 7);
        e.due("12 and half of 9", x.plank(2, 1), 16);
        e.due("the last one: 9 and half of 12", x.plank(3, 1), 15);
        x = Bench.told("planks 3 bear 99;person at 1;person at 3;weighs:3;");
        e.due("cut once, together", x.plank(1, 1), 3);
        x = Bench.told("planks 3 bear 99;person at 1;weighs:1;");
        e.due("half of 1", x.plank(1, 1), 0);
        e.due("two away", x.plank(2, 1), 0);
        x = Bench.told("planks 1 bear 99;person;person at 1;person at 2;weighs:8;");
        e.due("one plank alone", x.plank(0, 1), 8);
        e.due("nobody", Bench.told("planks 1 bear 99;person;weighs:8;").plank(0, 1), 0);
    }

    private void bears() {
        e.says(TERMS, "It BEARS what was told and 10 for each time it was MENDED whole.");
        DebtBridge x = Bench.told("planks 2 bear 999;plank 1 bears 0;");
        e.due("told", x.plank(0, 0), 999);
        e.due("999 and 10", x.mend(0), 1009);
        e.due("and 10", x.mend(0), 1019);
        e.due("the other one", x.plank(1, 0), 0);
        x = Bench.told("planks 1 bear 2;person at 1;weighs:3;");
        e.due("mended, but not whole", x.mend(0), 2);
        e.due("whole", x.mend(0), 12);
    }

    private void breaks() {
        e.says(TERMS, "As long as there is one that isn't BROKEN with a LOAD above what it BEARS, the first such one BREAKS:");
        e.due("as much as it bears", Bench.told("planks 1 bear 5;person at 1;weighs:5;").count(7), 0);
        e.due("one more", Bench.told("planks 1 bear 5;person at 1;weighs:6;").count(7), 1);
        e.due("0 on one that bears 0", Bench.told("planks 1 bear 0;person at 1;weighs:0;").count(7), 0);
        e.due("half of 11 on 5", Bench.told("planks 2 bear 99;plank 1 bears 5;person at 1;weighs:11;").count(7), 0);
        e.due("half of 12 on 5", Bench.told("planks 2 bear 99;plank 1 bears 5;person at 1;weighs:12;").count(7), 2);
        e.due("by two together", Bench.told("planks 1 bear 9;person at 1;person at 1;weighs:5;").count(7), 1);
        // both are too much at once: the first goes, and then the second bears its own
        DebtBridge x = Bench.told("planks 2 bear 8;person at 1;person at 2;weighs:6;");
        e.due("only the first", x.count(7), 1);
        e.due("who stood on it", x.count(2), 1);
        x = Bench.told("planks 3 bear 8;plank 0 bears 99;person at 2;person at 3;weighs:6;");
        e.due("only the first of two further on", x.count(7), 2);
        // as long as there is one: one behind another
        x = Bench.told("planks 3 bear 4;person at 1;person at 2;person at 3;weighs:5;");
        e.due("all three", x.count(7), 7);
        e.due("all fall", x.count(2), 7);
        x = Bench.told("planks 8 bear 0;person at 1;person at 3;person at 5;person at 7;weighs:1;");
        e.due("each under its own", x.count(7), 85);
        x = Bench.told("planks 8 bear 0;person at 2;person at 7;weighs:2;");
        // plank 0 under half of 2, then 1 under 2, and nobody is beside 2 then; likewise 5 and 6
        e.due("one ahead of it first", x.count(7), 1 + 2 + 32 + 64);
        e.due("both fall", x.count(2), 3);
        x = Bench.told("planks 8 bear 0;person at 2;person at 3;person at 5;person at 6;person at 8;weighs:2;");
        e.due("all eight", x.count(7), 255);
    }

    private void fallen() {
        e.says(TERMS, "it is BROKEN, those on it are FALLEN for good (their debts stay).");
        DebtBridge x = Bench.told("planks 2 bear 5;person at 1;person at 1;person;owes 0 to 2 of 9;owes 2 to 0 of 4;");
        e.due("broken", x.plank(0, 2), 1);
        e.due("both fallen", x.count(2), 3);
        e.due("debts stay", x.count(6), 13);
        e.due("papers", x.person(0, 2), 1);
        e.due("owed", x.person(0, 3), 4);
        e.due("mended", x.mend(0), 5);
        e.due("for good", x.count(2), 3);
        x.tear(0, 2);
        e.due("for good, though they weigh nothing", x.person(0, 0), -1);
        e.due("no step", x.step(0, true), -12);
        e.due("no load", x.plank(0, 1), 0);
    }

    private void lets() {
        e.says(TERMS, "It may come to a PLANK only if the law lets holds (without one: always):");
        DebtBridge x = Bench.told("planks 2 bear 5;person;person at 1;person at 2;lets:1=2;");
        e.due("to a plank", x.step(0, true), -13);
        e.due("from plank to plank", x.step(1, true), -13);
        e.due("back to a plank", x.step(2, false), -13);
        e.due("to the west bank", x.step(1, false), 0);
        e.due("to the east bank", x.step(2, true), 3);
        e.due("back from the east bank", x.step(2, false), -13);
        e.due("without one", Bench.told("planks 2 bear 5;person;").step(0, true), 1);
        e.says(TERMS, "who, day, snow as above, plank: its number, weight: what it WEIGHS,");
        x = Bench.told("planks 8 bear 99;person;person;weighs:40+who;day 8;lets:who=1 and day=1 and snow=0 and weight=41 and plank<7;");
        e.due("0 is another", x.alone(0), 0);
        e.due("1 till the last plank", x.alone(1), 7);
        for (int k = 0; k < 3; k++) {
            x = Bench.told("planks 3 bear 99;person;person;lets:plank<" + k + ";");
            for (int at = 0; at < k; at++) {
                e.due("a step below " + k, x.step(0, true), at + 1);
            }
            e.due("a step to " + k, x.step(0, true), -13);
            x = Bench.told("planks 3 bear 99;person at 4;person;lets:plank>" + k + ";");
            for (int at = 2; at > k; at--) {
                e.due("back above " + k, x.step(0, false), at + 1);
            }
            e.due("back to " + k, x.step(0, false), -13);
        }
        x = Bench.told("planks 1 bear 0;person;weighs:909*12;lets:weight=909*11;");
        e.due("what it weighs, 9,999 at most", x.alone(0), 0);
        e.due("so it may, and breaks it", x.step(0, true), -1);
    }

    private void others() {
        e.says(TERMS, "others: how many others are on PLANKS.");
        // 0 steps; 1 west, 2 east, 3 fallen, 4 and 5 on planks
        String text = "planks 4 bear 5;person;person;person at 5;person at 4;person at 2;person at 2;weighs:0;";
        DebtBridge x = Bench.told(text + "weighs:(who-2)*(3-who)*0;lets:others=2;");
        e.due("4, 5 and 3 are there: not two", x.step(0, true), -13);
        x = Bench.told(text + "weighs:who*(who-2)*(4-who)*2;lets:others=2;");
        e.due("3 is fallen", x.count(2), 8);
        e.due("4 and 5", x.step(0, true), 1);
        e.due("4 and 5, itself aside", x.step(0, false), 0);
        e.due("to a plank again", x.step(0, true), 1);
        e.due("4: 0 and 5", x.step(4, true), 3);
        x = Bench.told("planks 2 bear 5;person;person;person at 3;lets:others=0;");
        e.due("banks aside", x.step(0, true), 1);
        e.due("one is on it", x.step(1, true), -13);
        e.due("itself aside", x.step(0, true), 2);
    }
}
