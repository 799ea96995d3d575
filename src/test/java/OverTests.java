/** Promises 19 to 25: who gets over, alone and in rows. */
public final class OverTests {
    private static final Bench B = new Bench("OverTests");

    public static void main(String[] args) {
        alone();
        able();
        tears();
        row();
        order();
        orders();
        apart();
        B.end();
    }

    private static void alone() {
        DebtBridge x = Bench.told("planks 4 bear 9;plank 2 bears 4;person at 4;person;person at 5;owes 0 to 1 of 9;"
            + "owes 1 to 0 of 5;owes 2 to 0 of 4;");
        // 0 stands on plank 3 and half of 9 is 4: plank 2 holds
        B.due("whole", x.count(7), 0);
        B.due("0: plank 2", x.alone(0), 2);
        B.due("1: plank 2", x.alone(1), 2);
        B.due("2 gets over, as if from the west, who owes whom aside", x.alone(2), -1);
        B.due("no such", x.alone(3), -2);
        B.due("no such", x.alone(-1), -2);
        x = Bench.told("planks 3 bear 9;plank 1 bears 3;person;person;owes 0 to 1 of 8;");
        B.due("plank 1 would break beside it", x.alone(0), 1);
        B.due("another one", x.alone(1), -1);
        x = Bench.told("planks 3 bear 9;person at 2;person;owes 0 to 1 of 10;");
        B.due("broken", x.count(7), 2);
        B.due("a broken one", x.alone(1), 1);
        B.due("the fallen, too: the first plank", x.alone(0), 0);
        x = Bench.told("planks 3 bear 9;person;person at 1;lets:plank<2 and others=0;");
        B.due("the law; nobody else on it", x.alone(0), 2);
        x = Bench.told("planks 3 bear 9;person;weighs:day*3;day 3;");
        B.due("today", x.alone(0), -1);
        x.days(1);
        B.due("today", x.alone(0), 0);
    }

    private static void able() {
        DebtBridge x = Bench.told("planks 2 bear 9;person;person;person;person at 1;owes 0 to 1 of 9;owes 1 to 0 of 10;"
            + "owes 3 to 0 of 9;");
        B.due("able", x.able(), 13);
        x.tear(1, 0);
        B.due("able", x.able(), 15);
        B.due("nobody", new DebtBridge().able(), 0);
        x = Bench.told("planks 2 bear 9;person at 1;person;owes 0 to 1 of 10;");
        B.due("broken: none", x.able(), 0);
    }

    private static void tears() {
        DebtBridge x = Bench.told("planks 2 bear 9;person;person;person;person;owes 0 to 1 of 4;owes 0 to 2 of 5;"
            + "owes 0 to 3 of 6;owes 1 to 0 of 9;owes 2 to 0 of 99;");
        B.due("one of them: 6 has to go (or more)", x.tears(0, 0), 1);
        B.due("to 3", x.tears(0, 1), 8);
        B.due("none", x.tears(1, 0), 0);
        B.due("none", x.tears(1, 1), 0);
        B.due("one", x.tears(2, 1), 1);
        B.due("no such", x.tears(4, 0), -2);
        B.due("what 2", x.tears(0, 2), -2);
        B.due("what -1", x.tears(0, -1), -2);
        B.due("nothing is torn", x.count(5), 5);
        x = Bench.told("planks 2 bear 9;person;person;person;person;owes 0 to 1 of 7;owes 0 to 2 of 7;owes 0 to 3 of 7;");
        B.due("two of three", x.tears(0, 0), 2);
        B.due("the least set", x.tears(0, 1), 6);
        x = Bench.told("planks 2 bear 9;person;person;owes 0 to 1 of 7;weighs:debt+10;");
        B.due("by none", x.tears(0, 0), -1);
        B.due("by none", x.tears(0, 1), -1);
        x = Bench.told("planks 2 bear 9;person;person;person;owes 0 to 1 of 1;owes 0 to 2 of 90;weighs:papers*5;");
        B.due("papers weigh", x.tears(0, 1), 2);
        x = Bench.told("planks 2 bear 20;person;person;person;owes 0 to 1 of 7;owes 0 to 2 of 7;weighs:30-6*papers;");
        B.due("who weighs more with each paper torn", x.tears(0, 0), 0);
        x = Bench.told("planks 2 bear 9;person;person;person;owes 0 to 1 of 7;owes 0 to 2 of 3;lets:weight=3;");
        B.due("the law", x.tears(0, 1), 2);
        x = Bench.told("planks 2 bear 9;person at 1;person;person;owes 0 to 1 of 7;owes 0 to 2 of 3;");
        B.due("a broken plank: by none", x.tears(0, 0), -1);
    }

    private static int rowOf(DebtBridge x, long... people) {
        Bench.fill(x, 1, people);
        return x.row(1);
    }

    private static void row() {
        DebtBridge x = Bench.told("planks 3 bear 9;plank 1 bears 8;person;person at 2;person;owes 0 to 1 of 6;"
            + "owes 1 to 0 of 4;owes 2 to 0 of 3;lets:1=2;");
        B.due("no tray", x.row(4), -2);
        B.due("missing", x.row(0), -6);
        B.due("no numbers", rowOf(x), -4);
        B.due("seven", rowOf(x, 0, 1, 2, 0, 1, 2, 0), -4);
        B.due("no person", rowOf(x, 0, 3), -3);
        B.due("no person", rowOf(x, -1), -3);
        B.due("no person, beyond an int", rowOf(x, 4294967296L), -3);
        B.due("twice", rowOf(x, 0, 1, 0), -3);
        B.due("one", rowOf(x, 0), -1);
        B.due("6 then 4: 6 + 2 on plank 1", rowOf(x, 0, 1), -1);
        B.due("4 then 6: 6 + 2", rowOf(x, 1, 0), -1);
        // 6, 4, 3: 4 between on plank 1: 4 + (6 + 3) / 2 = 8
        B.due("three", rowOf(x, 0, 1, 2), -1);
        // 4, 6, 3: 6 + (4 + 3) / 2 = 9 on plank 1
        B.due("6 in the middle", rowOf(x, 1, 0, 2), 1);
        x = Bench.told("planks 3 bear 9;person;person at 2;person;owes 0 to 1 of 6;owes 1 to 0 of 10;");
        B.due("1 fell", x.count(7), 2);
        B.due("comes to a broken one", rowOf(x, 2), 1);
        B.due("too heavy on plank 0", rowOf(x, 1), 0);
        B.due("2 comes to plank 1 as 1 comes to plank 0: the first of one step", rowOf(x, 2, 1), 0);
        B.due("2 comes to plank 1", rowOf(x, 2, 0), 1);
        x = Bench.told("planks 2 bear 99;plank 1 bears 3;person;weighs:8;");
        B.due("breaks beside", rowOf(x, 0), 1);
        x = Bench.told("planks 1 bear 9;person;person;person;person;person;person;weighs:9;");
        B.due("six over one plank", rowOf(x, 5, 4, 3, 2, 1, 0), -1);
        x = Bench.told("planks 2 bear 9;person;person;person;person;person;person;weighs:6;");
        B.due("six of 6 over two planks: 6 + 3", rowOf(x, 5, 4, 3, 2, 1, 0), -1);
        x = Bench.told("planks 3 bear 9;person;person;owes 0 to 1 of 10;");
        x.tear(0, 1);
        x.undo(1);
        B.due("what it weighs now", rowOf(x, 0), 0);
        x = Bench.told("planks 3 bear 9;person;person;person;weighs:6;");
        B.due("two of 6 over three", rowOf(x, 2, 0), -1);
        B.due("three of 6: 6 + 6", rowOf(x, 2, 1, 0), 1);
    }

    private static void order() {
        DebtBridge x = Bench.told("planks 3 bear 9;plank 1 bears 8;person;person;person at 4;person;owes 0 to 1 of 6;"
            + "owes 1 to 0 of 4;owes 2 to 0 of 3;owes 3 to 0 of 20;");
        // in the middle on plank 1: 0 weighs 6 + 3, 1 weighs 4 + 4, 2 weighs 3 + 5
        B.due("first", x.order(7, 0), 0);
        B.due("second", x.order(7, 1), 1);
        B.due("third", x.order(7, 2), 2);
        B.due("not so many", x.order(7, 3), -1);
        B.due("not so many", x.order(7, 2000000000), -1);
        B.due("one", x.order(4, 0), 2);
        B.due("3 doesn't get over", x.order(9, 0), -1);
        B.due("empty", x.order(0, 0), -3);
        B.due("others", x.order(16, 0), -3);
        B.due("others", x.order(17, 0), -3);
        B.due("others", x.order(-1, 0), -3);
        B.due("i below 0", x.order(7, -1), -3);
        x = Bench.told("planks 3 bear 9;plank 1 bears 7;person;person;person;weighs:4-who;");
        // 4, 3, 2: in the middle 4 + 2, 3 + 3, 2 + 3: all go
        B.due("all six", x.orders(7), 6);
        x = Bench.told("planks 3 bear 9;plank 1 bears 5;person;person;person;weighs:4-who;");
        B.due("only 2 in the middle: 2 + 3, but beside 4 of it 4 + 1, 3 + 1", x.order(7, 1), 2);
        B.due("0 first", x.order(7, 0), 0);
        B.due("1 last", x.order(7, 2), 1);
        B.due("0 2 1 and 1 2 0", x.orders(7), 2);
    }

    private static void orders() {
        DebtBridge x = Bench.told("planks 3 bear 9;plank 1 bears 8;person;person;person at 4;person;owes 0 to 1 of 6;"
            + "owes 1 to 0 of 4;owes 2 to 0 of 3;owes 3 to 0 of 20;lets:1=2;");
        B.due("0 isn't in the middle", x.orders(7), 4);
        B.due("two", x.orders(3), 2);
        B.due("one", x.orders(1), 1);
        B.due("too heavy", x.orders(8), 0);
        B.due("with the heavy", x.orders(15), 0);
        B.due("empty", x.orders(0), -3);
        B.due("others", x.orders(16), -3);
        B.due("others", x.orders(Integer.MIN_VALUE), -3);
        x = Bench.told("planks 8 bear 9;person;person;person;person;person;person;");
        B.due("all of six", x.orders(63), 720);
        B.due("the first", x.order(63, 5), 5);
        x = Bench.told("planks 1 bear 9;person;person;weighs:9;");
        B.due("one plank: nobody beside", x.orders(3), 2);
        x = Bench.told("planks 2 bear 9;plank 0 bears 6;person;person;weighs:6-3*who;");
        B.due("plank 0 bears 6 alone, 3 behind 6", x.orders(3), 1);
        B.due("0 first", x.order(3, 0), 0);
        x = Bench.told("planks 2 bear 9;plank 1 bears 6;person;person;weighs:3+3*who;");
        B.due("plank 1 bears 6 alone, 3 ahead of 6", x.orders(3), 1);
        B.due("0 first", x.order(3, 0), 0);
        x = Bench.told("planks 3 bear 9;plank 0 bears 5;person;weighs:6;");
        B.due("plank 0 doesn't bear it", x.orders(1), 0);
        x = Bench.told("planks 3 bear 9;person;person;owes 0 to 1 of 10;");
        x.tear(0, 1);
        x.undo(1);
        B.due("what it weighs now", x.orders(1), 0);
        x = Bench.told("planks 8 bear 9;person;person at 4;person;weighs:who*20;");
        B.due("broken", x.count(7) != 0 ? x.orders(1) : -9, 0);
    }

    private static void apart() {
        DebtBridge x = Bench.told("planks 3 bear 9;person;person;person;owes 0 to 1 of 6;owes 1 to 0 of 7;"
            + "owes 2 to 0 of 10;lets:1=2;");
        // 7 + 3 is too much side by side; one plank between: 7, 6, and half of 13 between
        B.due("one between", x.apart(0, 1), 1);
        B.due("the other way", x.apart(1, 0), 1);
        B.due("not at all", x.apart(0, 2), -1);
        B.due("both one", x.apart(1, 1), -2);
        B.due("no such", x.apart(0, 3), -2);
        B.due("no such", x.apart(-1, 0), -2);
        x = Bench.told("planks 2 bear 9;plank 0 bears 7;person;person;weighs:6-who;");
        // the second one on plank 0 beside the first on plank 1: 5 + 3, the other way 6 + 2
        B.due("side by side isn't", x.apart(0, 1), 1);
        x = Bench.told("planks 2 bear 9;plank 0 bears 8;person;person;weighs:6-who;");
        B.due("side by side", x.apart(0, 1), 0);
        x = Bench.told("planks 2 bear 9;plank 0 bears 7;person;person;weighs:6-3*who;");
        // 3 + 3 = 6 behind the heavy one; the heavy one behind: 6 + 1 = 7
        B.due("light behind", x.apart(0, 1), 0);
        x = Bench.told("planks 2 bear 9;plank 0 bears 6;person;person;weighs:6-3*who;");
        B.due("light behind", x.apart(0, 1), 0);
        B.due("light ahead", x.apart(1, 0), 1);
        x = Bench.told("planks 1 bear 9;person;person;weighs:9;");
        B.due("one plank", x.apart(0, 1), 0);
        x = Bench.told("planks 3 bear 9;person at 2;person;owes 0 to 1 of 10;weighs:debt;");
        B.due("broken", x.apart(1, 0), -1);
    }
}
