/** The terms that tell of nets and rings, and promises 26 to 35. */
final class DebtEdges {
    private static final int TERMS = Edge.TERMS;
    private static final int LOW = Integer.MIN_VALUE;
    private static final int HIGH = Integer.MAX_VALUE;
    private static final String SIX = "planks 2 bear 20;person;person;person;person;person;person;";

    private final Edge e;

    private DebtEdges(Edge e) {
        this.e = e;
    }

    static void run(Edge e) {
        DebtEdges t = new DebtEdges(e);
        t.net();
        t.coin();
        t.settles();
        t.rings();
        t.ring();
        t.heaviest();
        t.forgive();
        t.mends();
        t.mendsAt();
        t.mendsAll();
    }

    private void net() {
        e.says(TERMS, "NET of one: OWED less DEBT.");
        DebtBridge x = Bench.told(SIX + "owes 0 to 1 of 7;owes 2 to 0 of 9;owes 0 to 3 of 4;");
        e.due("9 less 11", x.net(0), -2);
        e.due("owed alone", x.net(1), 7);
        e.due("debt alone", x.net(2), -9);
        e.due("neither", x.net(5), 0);
        e.says(26, "NET of one.");
        StringBuilder all = new StringBuilder(SIX);
        for (int p = 1; p < 6; p++) {
            all.append("owes 0 to ").append(p).append(" of 99;owes ").append(p).append(" to 5 of 99;".repeat(p < 5 ? 1 : 0));
            all.append(p < 5 ? "" : " to 1 of 1;");
        }
        x = Bench.told(all.toString());
        e.due("the least there can be", x.net(0), -495);
        e.due("the most, less 1 that it owes", x.net(5), 494);
        e.due("the fallen, too", Bench.told("planks 1 bear 2;person at 1;person;owes 0 to 1 of 5;").net(0), -5);
        e.says(26, "-99000002.");
        for (int p : new int[] {-1, 6, LOW, HIGH}) {
            e.due("no person " + p, x.net(p), -99000002);
        }
        e.due("nobody is told", new DebtBridge().net(0), -99000002);
        e.says(TERMS, "net(): -99000002.");
        e.due("-2 is a net, too", Bench.told(SIX + "owes 0 to 1 of 2;").net(0), -2);
        e.due("no such person", x.net(7), -99000002);
    }

    private void coin() {
        e.says(TERMS, "COIN: the sum of all that are above 0.");
        e.due("5 and 4", Bench.told(SIX + "owes 0 to 1 of 9;owes 1 to 2 of 4;").coin(), 9);
        e.due("of the last one", Bench.told(SIX + "owes 0 to 5 of 9;").coin(), 9);
        e.due("of the first one", Bench.told(SIX + "owes 5 to 0 of 9;").coin(), 9);
        e.says(27, "COIN.");
        e.due("no people", new DebtBridge().coin(), 0);
        e.due("no papers", Bench.told(SIX).coin(), 0);
        e.due("all even", Bench.told(SIX + "owes 0 to 1 of 9;owes 1 to 2 of 9;owes 2 to 0 of 9;").coin(), 0);
        e.due("through others", Bench.told(SIX + "owes 0 to 1 of 9;owes 1 to 2 of 9;").coin(), 9);
    }

    private void settles() {
        e.says(TERMS, "SETTLING: papers (of any amounts above 0) that, in place of all there are, leave each its NET: the fewest.");
        DebtBridge x = Bench.told(SIX + "owes 0 to 1 of 99;owes 0 to 2 of 99;owes 1 to 5 of 99;owes 2 to 5 of 99;");
        e.due("one of 198, of two who had none", x.settles(), 1);
        e.due("pairs ahead of more: -5 -4 5 4", Bench.told(SIX + "owes 0 to 3 of 4;owes 0 to 2 of 1;owes 1 to 2 of 4;").settles(), 2);
        e.due("three pairs", Bench.told(SIX + "owes 0 to 3 of 1;owes 1 to 4 of 2;owes 2 to 5 of 3;").settles(), 3);
        e.due("no group but all: -1 -2 -4 -8 -16 31",
            Bench.told(SIX + "owes 0 to 5 of 1;owes 1 to 5 of 2;owes 2 to 5 of 4;owes 3 to 5 of 8;owes 4 to 5 of 16;").settles(), 5);
        e.due("two groups of three: -3 1 2, -5 -7 12",
            Bench.told(SIX + "owes 0 to 3 of 1;owes 0 to 5 of 2;owes 1 to 4 of 2;owes 1 to 5 of 3;owes 2 to 5 of 7;").settles(), 4);
        e.due("a pair and a group of four: -9 9, -1 -2 -4 7",
            Bench.told(SIX + "owes 0 to 1 of 9;owes 2 to 5 of 1;owes 3 to 5 of 2;owes 4 to 5 of 4;").settles(), 4);
        e.due("-2 1 1", Bench.told(SIX + "owes 0 to 1 of 1;owes 0 to 2 of 1;").settles(), 2);
        e.due("-1 -1 2", Bench.told(SIX + "owes 0 to 2 of 1;owes 1 to 2 of 1;").settles(), 2);
        e.due("mixed pairs: 5 3 -5 -3 2 -2", Bench.told(SIX + "owes 2 to 1 of 3;owes 2 to 0 of 2;owes 3 to 0 of 3;owes 5 to 4 of 2;").settles(), 3);
        e.says(28, "How many papers SETTLING takes.");
        e.due("no people", new DebtBridge().settles(), 0);
        e.due("no papers", Bench.told(SIX).settles(), 0);
        e.due("all even", Bench.told(SIX + "owes 0 to 1 of 9;owes 1 to 2 of 9;owes 2 to 0 of 9;").settles(), 0);
        e.due("one", Bench.told(SIX + "owes 5 to 4 of 1;").settles(), 1);
        x = Bench.told(SIX + "owes 0 to 1 of 1;owes 2 to 3 of 2;owes 4 to 5 of 3;owes 1 to 2 of 10;owes 2 to 1 of 10;");
        e.due("three pairs", x.settles(), 3);
        x.tear(2, 1);
        e.due("asked again: -1 -9 8 2, -3 3", x.settles(), 4);
        x.tear(4, 5);
        e.due("asked again: -1 -9 8 2", x.settles(), 3);
    }

    private static String allOweAll(int amount) {
        StringBuilder all = new StringBuilder(SIX);
        for (int p = 0; p < 6; p++) {
            for (int q = 0; q < 6; q++) {
                all.append(p == q ? "" : "owes " + p + " to " + q + " of " + amount + ";");
            }
        }
        return all.toString();
    }

    private void rings() {
        e.says(TERMS, "RINGS of debts: 2 people and more, unlike, each of whom owes the next one (whoever is told first: one RING); from its least PERSON on.");
        DebtBridge x = Bench.told(SIX + "owes 4 to 2 of 3;owes 2 to 4 of 3;");
        e.due("two: one ring", x.rings(), 1);
        e.due("from its least on", x.ring(10) * 10 + x.ring(11), 24);
        x = Bench.told(SIX + "owes 5 to 3 of 3;owes 3 to 4 of 3;owes 4 to 5 of 3;");
        e.due("three: one ring", x.rings(), 1);
        e.due("from its least on", x.ring(10) * 100 + x.ring(11) * 10 + x.ring(12), 345);
        x = Bench.told(SIX + "owes 0 to 1 of 3;owes 1 to 0 of 3;owes 1 to 2 of 3;owes 2 to 1 of 3;");
        e.due("unlike: nobody twice", x.rings(), 2);
        e.due("the other way round is another one",
            Bench.told(SIX + "owes 0 to 1 of 1;owes 1 to 2 of 1;owes 2 to 0 of 1;owes 0 to 2 of 1;owes 2 to 1 of 1;owes 1 to 0 of 1;").rings(), 5);
        e.due("no way back", Bench.told(SIX + "owes 0 to 1 of 1;owes 1 to 2 of 1;owes 0 to 2 of 1;").rings(), 0);
        e.due("all six in one", Bench.told(SIX + "owes 0 to 5 of 1;owes 5 to 1 of 1;owes 1 to 4 of 1;owes 4 to 2 of 1;owes 2 to 3 of 1;"
            + "owes 3 to 0 of 1;").rings(), 1);
        e.says(29, "How many RINGS.");
        e.due("no people", new DebtBridge().rings(), 0);
        e.due("no papers", Bench.told(SIX).rings(), 0);
        e.due("all owe all: 15 + 40 + 90 + 144 + 120", Bench.told(allOweAll(1)).rings(), 409);
        x.tear(0, 1);
        e.due("torn", x.rings(), 1);
    }

    private void ring() {
        e.says(30, "The RING by which most debt goes if it is CANCELLED (the least of it, times how many),");
        DebtBridge x = Bench.told(SIX + "owes 0 to 1 of 99;owes 1 to 0 of 5;owes 2 to 3 of 4;owes 3 to 4 of 4;owes 4 to 2 of 9;");
        e.due("3 times 4 ahead of 2 times 5", x.ring(0), 12);
        Bench.fill(x, 0, 2, 3, 4);
        int before = x.count(6);
        x.cancel(0);
        e.due("so much goes", before - x.count(6), 12);
        e.due("then the other one", x.ring(0), 10);
        e.due("all owe all 99", Bench.told(allOweAll(99)).ring(0), 594);
        e.says(30, "of like ones the first, PERSON by PERSON (a shorter one ahead of one it begins),");
        x = Bench.told(SIX + "owes 2 to 4 of 6;owes 4 to 2 of 9;owes 1 to 3 of 4;owes 3 to 5 of 7;owes 5 to 1 of 4;owes 5 to 3 of 6;");
        e.due("1 3 5 ahead of 2 4 and 3 5", x.ring(10) * 100 + x.ring(11) * 10 + x.ring(12), 135);
        x = Bench.told(SIX + "owes 0 to 1 of 6;owes 1 to 0 of 6;owes 1 to 2 of 4;owes 2 to 0 of 4;");
        e.due("0 1 ahead of 0 1 2", x.ring(0) * 10 + x.ring(1), 122);
        x = Bench.told(SIX + "owes 0 to 2 of 6;owes 2 to 0 of 6;owes 0 to 1 of 4;owes 1 to 2 of 4;");
        e.due("0 1 2 ahead of 0 2, though longer", x.ring(0) * 10 + x.ring(1), 123);
        e.says(30, "what 0: how much goes, 1: how many people, 10 + k: the k-th of them (NONE: not so many).");
        e.due("goes", x.ring(0), 12);
        e.due("people", x.ring(1), 3);
        int[] due = {0, 1, 2, -1, -1, -1};
        for (int k = 0; k < 6; k++) {
            e.due("10 + " + k, x.ring(10 + k), due[k]);
        }
        x = Bench.told(allOweAll(1));
        e.due("six", x.ring(1), 6);
        e.due("the last of six", x.ring(15), 5);
        e.says(30, "NONE: there is none;");
        x = Bench.told(SIX + "owes 0 to 1 of 6;");
        for (int what : new int[] {0, 1, 10, 15}) {
            e.due("what " + what, x.ring(what), -1);
            e.due("no people, what " + what, new DebtBridge().ring(what), -1);
        }
        e.says(30, "-2: what (10 to 15).");
        for (int what : new int[] {-1, 2, 3, 9, 16, 17, LOW, HIGH}) {
            e.due("what " + what + ", ahead of NONE", x.ring(what), -2);
            e.due("what " + what + " of a ring", Bench.told(allOweAll(1)).ring(what), -2);
        }
    }

    private void heaviest() {
        e.says(31, "Who WEIGHS most, the first.");
        e.due("all alike", Bench.told(SIX + "weighs:7;").heaviest(), 0);
        e.due("all weigh nothing", Bench.told(SIX).heaviest(), 0);
        e.due("the last one", Bench.told(SIX + "weighs:who;").heaviest(), 5);
        e.due("2 and 3 alike", Bench.told(SIX + "weighs:who*(5-who);").heaviest(), 2);
        e.due("9,999 at most: both alike", Bench.told(SIX + "weighs:who*999*9;").heaviest(), 2);
        e.due("the fallen, too", Bench.told("planks 1 bear 2;person;person at 1;weighs:who*5;").heaviest(), 1);
        DebtBridge x = Bench.told("planks 2 bear 20;person;person;owes 1 to 0 of 5;");
        x.tear(1, 0);
        e.due("torn", x.heaviest(), 0);
        x.undo(1);
        e.due("undone", x.heaviest(), 1);
        e.says(31, "NONE: no PEOPLE.");
        e.due("a new object", new DebtBridge().heaviest(), -1);
        e.due("none told", Bench.told("planks 2 bear 20;").heaviest(), -1);
        e.due("one", Bench.told("planks 2 bear 20;person;").heaviest(), 0);
    }

    private void forgive() {
        e.says(32, "The paper by which, TORN, most get OVER ALONE, if more than now: 10 times who owes, and whom, the first.");
        e.due("of like ones the first", Bench.told(SIX + "owes 1 to 4 of 21;owes 3 to 2 of 21;").forgive(), 14);
        e.due("the last there can be", Bench.told(SIX + "owes 5 to 4 of 21;").forgive(), 54);
        e.due("the first there can be", Bench.told(SIX + "owes 0 to 1 of 21;owes 5 to 4 of 21;").forgive(), 1);
        // 1 weighs 35, 2 weighs 30: torn 30 both get over
        e.due("most", Bench.told(SIX + "owes 1 to 0 of 20;owes 1 to 2 of 30;weighs:debt+owed*1;").forgive(), 12);
        // one gets over, another one doesn't then
        DebtBridge x = Bench.told("planks 2 bear 9;person;person;owes 0 to 1 of 10;weighs:debt*(1-who)+who*(19-owed);");
        e.due("0 doesn't, 1 does", x.able(), 2);
        e.due("not more than now", x.forgive(), -1);
        x.tear(0, 1);
        e.due("it would be so", x.able(), 1);
        e.due("one of 1", Bench.told("planks 1 bear 0;person;person;owes 0 to 1 of 1;").forgive(), 1);
        e.due("torn it owes nothing at all", Bench.told("planks 1 bear 0;person;person;owes 0 to 1 of 9;").forgive(), 1);
        e.due("only one of its two", Bench.told(SIX + "owes 2 to 0 of 20;owes 2 to 1 of 1;owes 2 to 3 of 20;weighs:debt-20;").forgive(), 20);
        e.says(32, "NONE: none.");
        e.due("no people", new DebtBridge().forgive(), -1);
        e.due("no papers", Bench.told(SIX + "weighs:21;").forgive(), -1);
        e.due("all get over", Bench.told(SIX + "owes 0 to 1 of 20;").forgive(), -1);
        e.due("one isn't enough", Bench.told(SIX + "owes 0 to 1 of 21;owes 0 to 2 of 21;").forgive(), -1);
    }

    private void mends() {
        e.says(33, "The fewest times PLANKS have to be MENDED so that one gets OVER ALONE.");
        e.due("as much as it bears", Bench.told("planks 1 bear 9;person;weighs:9;").mends(0), 0);
        e.due("1 more", Bench.told("planks 1 bear 9;person;weighs:10;").mends(0), 1);
        e.due("10 more", Bench.told("planks 1 bear 9;person;weighs:19;").mends(0), 1);
        e.due("11 more", Bench.told("planks 1 bear 9;person;weighs:20;").mends(0), 2);
        e.due("all eight", Bench.told("planks 8 bear 9;plank 3 bears 10;person;weighs:10;").mends(0), 7);
        e.due("nobody else is on it", Bench.told("planks 1 bear 9;person;person at 1;weighs:10-who*9;lets:others=0;").mends(0), 1);
        DebtBridge x = Bench.told("planks 2 bear 9;person;person at 1;weighs:who*10;");
        e.due("a broken one", x.mends(0), 1);
        e.due("a broken one, and both bear 10 more", x.mends(1), 3);
        x.mend(0);
        e.due("mended", x.mends(0), 0);
        e.due("nothing is mended by asking", x.plank(0, 3) + x.plank(1, 3), 0);
        e.says(33, "NONE: by none (the law; 99 times aren't enough); -2.");
        e.due("the law", Bench.told("planks 2 bear 9;person;lets:plank=0;").mends(0), -1);
        e.due("99 times", Bench.told("planks 1 bear 9;person;weighs:999;").mends(0), 99);
        e.due("99 times aren't", Bench.told("planks 1 bear 9;person;weighs:999+1;").mends(0), -1);
        e.due("99 times each", Bench.told("planks 8 bear 9;person;weighs:999;").mends(0), 792);
        e.due("not for the last plank", Bench.told("planks 8 bear 9;plank 7 bears 8;person;weighs:999;").mends(0), -1);
        x = Bench.told("planks 1 bear 9;person;person at 1;weighs:999+who;");
        e.due("broken: once, and 99 times", x.mends(0), 100);
        e.due("broken, and 99 times aren't", x.mends(1), -1);
        x = Bench.told("planks 1 bear 9;person;person;weighs:999+who;");
        for (int i = 1; i <= 99; i++) {
            x.mend(0);
        }
        e.due("mended 99 times, enough", x.mends(0), 0);
        e.due("mended 99 times, not enough", x.mends(1), -1);
        x.step(1, true);
        e.due("1 broke it: once more is enough for 0", x.plank(0, 2) * 10 + x.mends(0), 11);
        for (int p : new int[] {-1, 2, 6, LOW, HIGH}) {
            e.due("no person " + p, x.mends(p), -2);
        }
        e.due("nobody is told", new DebtBridge().mends(0), -2);
    }

    private void mendsAt() {
        e.says(34, "How often a PLANK has to be, at least, of these.");
        DebtBridge x = Bench.told("planks 4 bear 9;plank 1 bears 0;plank 3 bears 20;person;person at 3;weighs:20-who*10;");
        // 1 broke plank 2 (10 on 9), and plank 1 bears 0 under half of 10
        e.due("planks 1 and 2 are broken", x.count(7), 6);
        int[] due = {2, 3, 3, 0};
        for (int k = 0; k < 4; k++) {
            e.due("plank " + k, x.mendsAt(0, k), due[k]);
        }
        e.due("all of these", x.mends(0), 8);
        e.says(34, "Codes as mends(); -2: also no such PLANK.");
        for (int p : new int[] {-1, 2, LOW, HIGH}) {
            e.due("no person " + p, x.mendsAt(p, 0), -2);
        }
        for (int k : new int[] {-1, 4, 8, LOW, HIGH}) {
            e.due("no plank " + k, x.mendsAt(0, k), -2);
        }
        x = Bench.told("planks 2 bear 9;person;lets:plank=0;");
        e.due("by none: where it may come, too", x.mendsAt(0, 0), -1);
        e.due("by none: where it mayn't", x.mendsAt(0, 1), -1);
        e.due("no plank, ahead of NONE", x.mendsAt(0, 2), -2);
        x = Bench.told("planks 2 bear 9;plank 1 bears 8;person;weighs:999;");
        e.due("99 times aren't enough for the other one", x.mendsAt(0, 0), -1);
    }

    private void mendsAll() {
        e.says(35, "The fewest times so that all do.");
        e.due("no people", new DebtBridge().mendsAll(), 0);
        e.due("none needed", Bench.told(SIX).mendsAll(), 0);
        e.due("what is mended for one is for all", Bench.told(SIX + "weighs:21+who*10;").mendsAll(), 12);
        e.due("the first is the heaviest", Bench.told(SIX + "weighs:71-who*10;").mendsAll(), 12);
        DebtBridge x = Bench.told("planks 2 bear 9;person;person at 1;weighs:who*10;");
        e.due("broken: once for all, and once each", x.mendsAll(), 3);
        e.says(35, "NONE: some can't.");
        e.due("the first can't", Bench.told(SIX + "lets:who>0;").mendsAll(), -1);
        e.due("the last can't", Bench.told(SIX + "lets:who<5;").mendsAll(), -1);
        e.due("all there are can", Bench.told(SIX + "lets:who<6;").mendsAll(), 0);
        e.due("both there are can", Bench.told("planks 2 bear 20;person;person;lets:who<2;").mendsAll(), 0);
        e.due("none can", Bench.told(SIX + "lets:1=2;").mendsAll(), -1);
        e.due("99 times aren't enough for one", Bench.told("planks 1 bear 9;person;person;weighs:999+who;").mendsAll(), -1);
        e.due("99 times are for both", Bench.told("planks 1 bear 9;person;person;weighs:999-who;").mendsAll(), 99);
    }
}
