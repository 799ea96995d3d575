/** Promises 26 to 32: debts. */
public final class DebtTests {
    private static final Bench B = new Bench("DebtTests");
    private static final String SIX = "planks 2 bear 20;person;person;person;person;person;person;";

    public static void main(String[] args) {
        net();
        coin();
        settles();
        rings();
        ring();
        heaviest();
        forgive();
        B.end();
    }

    private static void net() {
        DebtBridge x = Bench.told(SIX + "owes 0 to 1 of 9;owes 1 to 2 of 4;owes 3 to 0 of 1;");
        B.due("0", x.net(0), -8);
        B.due("1", x.net(1), 5);
        B.due("2", x.net(2), 4);
        B.due("3", x.net(3), -1);
        B.due("4", x.net(4), 0);
        B.due("no such", x.net(6), -99000002);
        B.due("no such", x.net(-1), -99000002);
    }

    private static void coin() {
        DebtBridge x = Bench.told(SIX + "owes 0 to 1 of 9;owes 1 to 2 of 4;owes 3 to 0 of 1;");
        B.due("5 and 4", x.coin(), 9);
        x = Bench.told(SIX + "owes 0 to 1 of 9;owes 1 to 0 of 9;");
        B.due("even", x.coin(), 0);
        B.due("0 is owed", Bench.told(SIX + "owes 1 to 0 of 9;").coin(), 9);
        B.due("nobody", new DebtBridge().coin(), 0);
    }

    private static void settles() {
        B.due("nobody", new DebtBridge().settles(), 0);
        B.due("even", Bench.told(SIX + "owes 0 to 1 of 9;owes 1 to 2 of 9;owes 2 to 0 of 9;").settles(), 0);
        B.due("one", Bench.told(SIX + "owes 0 to 1 of 9;owes 1 to 2 of 9;").settles(), 1);
        B.due("-9, 5, 4", Bench.told(SIX + "owes 0 to 1 of 9;owes 1 to 2 of 4;").settles(), 2);
        B.due("two pairs", Bench.told(SIX + "owes 0 to 1 of 9;owes 2 to 3 of 4;").settles(), 2);
        // -9 9 -4 4 mixed up: 0 owes 2 9, 1 owes 3 ..: nets -5 -4 5 4
        B.due("pairs that are hidden", Bench.told(SIX + "owes 0 to 3 of 4;owes 0 to 2 of 1;owes 1 to 2 of 4;").settles(), 2);
        // -3 -5 -7 and 1 2 12: 3 = 1 + 2, 5 + 7 = 12: two groups of three
        B.due("two groups of three",
            Bench.told(SIX + "owes 0 to 3 of 1;owes 0 to 5 of 2;owes 1 to 4 of 2;owes 1 to 5 of 3;owes 2 to 5 of 7;").settles(), 4);
        // -1 -2 -4 and 7: no group but all
        B.due("one group", Bench.told(SIX + "owes 0 to 3 of 1;owes 1 to 3 of 2;owes 2 to 3 of 4;").settles(), 3);
        B.due("three pairs", Bench.told(SIX + "owes 0 to 1 of 1;owes 2 to 3 of 2;owes 4 to 5 of 3;").settles(), 3);
    }

    private static void rings() {
        DebtBridge x = Bench.told(SIX + "owes 0 to 1 of 9;owes 1 to 2 of 9;owes 2 to 0 of 9;owes 1 to 0 of 2;owes 3 to 0 of 1;");
        B.due("0 1 2, 0 1", x.rings(), 2);
        B.due("asked again", x.rings(), 2);
        x.tear(2, 0);
        B.due("0 1", x.rings(), 1);
        B.due("of it", x.ring(0), 4);
        x.tear(1, 0);
        B.due("none", x.ring(0), -1);
        B.due("none", Bench.told(SIX + "owes 0 to 1 of 9;").rings(), 0);
        StringBuilder all = new StringBuilder(SIX);
        for (int p = 0; p < 6; p++) {
            for (int q = 0; q < 6; q++) {
                all.append(p == q ? "" : "owes " + p + " to " + q + " of 5;");
            }
        }
        x = Bench.told(all.toString());
        // of 2, 3, 4, 5, 6 people: 15 + 40 + 90 + 144 + 120
        B.due("all owe all", x.rings(), 409);
        B.due("the longest", x.ring(0), 30);
        B.due("six", x.ring(1), 6);
        B.due("the first of them", x.ring(15), 5);
        x = Bench.told("planks 1 bear 3;person at 1;person;owes 0 to 1 of 9;owes 1 to 0 of 9;");
        B.due("the fallen, too", x.rings(), 1);
    }

    private static void ring() {
        DebtBridge x = Bench.told(SIX + "owes 2 to 4 of 6;owes 4 to 2 of 9;owes 1 to 3 of 4;owes 3 to 5 of 7;owes 5 to 1 of 4;"
            + "owes 5 to 3 of 6;");
        // 12 by 2 4, 12 by 1 3 5, 12 by 3 5: the first is 1 3 5
        B.due("goes", x.ring(0), 12);
        B.due("people", x.ring(1), 3);
        B.due("first", x.ring(10), 1);
        B.due("second", x.ring(11), 3);
        B.due("third", x.ring(12), 5);
        B.due("not so many", x.ring(13), -1);
        B.due("not so many", x.ring(15), -1);
        B.due("what 2", x.ring(2), -2);
        B.due("what 9", x.ring(9), -2);
        B.due("what 16", x.ring(16), -2);
        B.due("what -1", x.ring(-1), -2);
        // 0 1 with 6 each is 12; 0 1 2 with 4 is 12: the shorter one ahead of what it begins
        x = Bench.told(SIX + "owes 0 to 1 of 6;owes 1 to 0 of 6;owes 1 to 2 of 4;owes 2 to 0 of 4;");
        B.due("goes", x.ring(0), 12);
        B.due("people", x.ring(1), 2);
        B.due("third", x.ring(12), -1);
        // 0 2 1 with 5 is more than 0 1 2 with 4
        x = Bench.told(SIX + "owes 0 to 1 of 4;owes 1 to 2 of 4;owes 2 to 0 of 4;owes 0 to 2 of 5;owes 2 to 1 of 5;owes 1 to 0 of 5;");
        B.due("goes", x.ring(0), 15);
        B.due("second", x.ring(11), 2);
        x = Bench.told(SIX + "owes 0 to 1 of 4;");
        B.due("none", x.ring(0), -1);
        B.due("none", x.ring(1), -1);
        B.due("none", x.ring(10), -1);
        B.due("what ahead of none", x.ring(3), -2);
    }

    private static void heaviest() {
        B.due("no people", new DebtBridge().heaviest(), -1);
        B.due("the first of like ones", Bench.told(SIX).heaviest(), 0);
        B.due("2", Bench.told(SIX + "owes 2 to 0 of 5;owes 3 to 0 of 5;owes 1 to 0 of 4;").heaviest(), 2);
        DebtBridge x = Bench.told(SIX + "weighs:who*snow;snowy 10;");
        B.due("today", x.heaviest(), 0);
        x.days(1);
        B.due("today", x.heaviest(), 5);
        x.undo(1);
        B.due("undone", x.heaviest(), 0);
    }

    private static void forgive() {
        B.due("no people", new DebtBridge().forgive(), -1);
        // bear 20: 1 owes 15 and 15, 2 owes 21
        DebtBridge x = Bench.told(SIX + "owes 1 to 0 of 15;owes 1 to 2 of 15;owes 2 to 0 of 21;");
        B.due("the first", x.forgive(), 10);
        x = Bench.told(SIX + "owes 1 to 0 of 5;owes 1 to 2 of 36;owes 2 to 0 of 21;");
        B.due("the first that helps", x.forgive(), 12);
        x = Bench.told(SIX + "owes 1 to 0 of 5;owes 1 to 2 of 16;owes 2 to 0 of 1;weighs:debt+owed;");
        // 2 weighs 17; 0 weighs 6; 1 weighs 21: torn 5 or 16 it gets over
        B.due("one more", x.forgive(), 10);
        x = Bench.told(SIX + "owes 1 to 0 of 5;owes 1 to 2 of 30;weighs:debt+owed;");
        // 1 weighs 35, 2 weighs 30: torn 30 both get over
        B.due("most", x.forgive(), 12);
        B.due("nothing is torn", x.count(5), 2);
        B.due("all get over", Bench.told(SIX + "owes 1 to 0 of 5;").forgive(), -1);
        B.due("none helps", Bench.told(SIX + "owes 1 to 0 of 5;weighs:50;").forgive(), -1);
        B.due("none helps alone", Bench.told(SIX + "owes 1 to 0 of 25;owes 1 to 2 of 25;").forgive(), -1);
        // torn for good, 4 and 8 on plank 0 would break it; but planks are as they are
        x = Bench.told("planks 2 bear 10;person;person at 1;person at 1;owes 0 to 1 of 11;weighs:debt+who*4-owed;");
        B.due("planks as they are", x.forgive(), 1);
        B.due("for good", x.tear(0, 1), 11);
        B.due("it breaks", x.count(7), 1);
    }
}
