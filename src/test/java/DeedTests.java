/** Promises 8 to 18: deeds. */
public final class DeedTests {
    private static final Bench B = new Bench("DeedTests");

    public static void main(String[] args) {
        seed();
        step();
        stepRefused();
        breaking();
        hand();
        tear();
        cancel();
        mend();
        days();
        undo();
        judge();
        perform();
        season();
        B.end();
    }

    private static void seed() {
        DebtBridge x = new DebtBridge();
        B.due("seed", x.seed(5), 0);
        B.due("seed", x.seed(-7), 5);
        B.due("seed", x.seed(0), -7);
        B.due("three deeds", x.count(10), 3);
        x.days(1);
        B.due("drawn once", x.seed(0), 12345);
        seedUndone();
    }

    /** A seed is a deed like others, even if x is the same then, and is undone by itself. */
    private static void seedUndone() {
        DebtBridge x = new DebtBridge();
        x.seed(0);
        B.due("x as it was: a deed", x.count(10), 1);
        x.seed(0);
        B.due("one is left", x.undo(1), 1);
        B.due("none is left", x.undo(1), 0);
        x.seed(5);
        x.days(1);
        int drawn = 1103515245 * 5 + 12345;
        x.seed(9);
        B.due("the seed alone", x.undo(1), 2);
        B.due("x ahead of it", Bench.drawn(x), drawn);
        B.due("the day stays", x.count(8), 1);
        B.due("the day", x.undo(1), 1);
        B.due("x ahead of the day", Bench.drawn(x), 5);
        B.due("the first seed", x.undo(1), 0);
        B.due("x at first", Bench.drawn(x), 0);
        B.due("no more", x.undo(1), -3);
        for (int i = 1; i <= 12; i++) {
            x.seed(i);
        }
        B.due("ten at most", x.count(10), 10);
        B.due("ten", x.undo(10), 0);
        B.due("the eldest are forgotten", Bench.drawn(x), 2);
    }

    private static void step() {
        DebtBridge x = Bench.told("planks 2 bear 9;person;");
        B.due("east", x.step(0, true), 1);
        B.due("east", x.step(0, true), 2);
        B.due("west", x.step(0, false), 1);
        B.due("east", x.step(0, true), 2);
        B.due("bank", x.step(0, true), 3);
        B.due("on the last bank", x.step(0, true), -12);
        B.due("back", x.step(0, false), 2);
        x.step(0, false);
        B.due("bank", x.step(0, false), 0);
        B.due("on the first bank", x.step(0, false), -12);
        B.due("calls that did some", x.count(10), 8);
        B.due("no such", x.step(1, true), -11);
        B.due("no such", x.step(-1, false), -11);
    }

    private static void stepRefused() {
        // 0 and 1 owe each other; plank 0 lets none that weighs 5
        DebtBridge x = Bench.told("planks 2 bear 9;person;person;person;owes 0 to 1 of 5;owes 1 to 0 of 4;"
            + "lets:not[plank=0 and weight=5];");
        B.due("the law ahead of who owes", x.step(0, true), -13);
        B.due("owe each other", x.step(1, true), -14);
        B.due("neither", x.step(2, true), 1);
        B.due("nothing to be undone but that", x.count(10), 1);
        x = Bench.told("planks 2 bear 9;person at 1;person;owes 0 to 1 of 5;owes 1 to 0 of 4;lets:1=2;");
        B.due("the law isn't for banks, who owes is", x.step(0, false), -14);
        x.tear(1, 0);
        B.due("to the bank", x.step(0, false), 0);
        B.due("the law", x.step(0, true), -13);
        // 1 falls: 0 may go
        x = Bench.told("planks 2 bear 9;plank 0 bears 3;person;person at 1;owes 0 to 1 of 5;owes 1 to 0 of 4;");
        B.due("fallen", x.step(1, true), -12);
        B.due("a broken plank, ahead of all but no such", x.step(0, true), -12);
        B.due("mended", x.mend(0), 3);
        B.due("whom it owes is fallen; it falls", x.step(0, true), -1);
        DebtBridge y = Bench.told("planks 2 bear 9;person at 2;person at 1;person at 3;owes 0 to 1 of 10;");
        B.due("the last plank is broken", y.step(1, true), -12);
        B.due("from the other side", y.step(2, false), -12);
        B.due("fallen", x.count(2), 3);
        x = Bench.told("planks 3 bear 9;person at 1;person at 3;person;lets:others<2;");
        B.due("others: itself aside", x.step(0, true), 2);
        B.due("others: two", x.step(2, true), -13);
        B.due("to the bank", x.step(1, true), 4);
        B.due("others: one", x.step(2, true), 1);
    }

    private static void breaking() {
        // 8 on plank 0 with half of 4 beside it: 10 is too much for 9; plank 1 bears 4 and half of 8
        DebtBridge x = Bench.told("planks 3 bear 9;person;person at 2;owes 0 to 1 of 8;owes 1 to 0 of 4;");
        x.tear(1, 0);
        B.due("nothing beside", x.step(0, true), 1);
        x.undo(2);
        x = Bench.told("planks 3 bear 9;person;person at 2;person;owes 0 to 2 of 8;owes 1 to 2 of 4;");
        B.due("too much", x.step(0, true), -1);
        B.due("broken", x.count(7), 1);
        B.due("the other stays", x.person(1, 0), 2);
        // the first one breaks first, and what was beside it is less then
        x = Bench.told("planks 3 bear 9;person;person at 3;person at 2;person;owes 0 to 3 of 9;owes 1 to 3 of 9;"
            + "owes 2 to 3 of 1;");
        B.due("plank 2 bears 9 and half of 1, plank 1: 1 and half of 9", x.count(7), 0);
        B.due("steps", x.step(0, true), 1);
        // plank 0: 9 + 1/2; plank 1: 1 + 18/2 = 10: it breaks, 2 falls
        B.due("broken", x.count(7), 2);
        B.due("fallen", x.count(2), 4);
        B.due("steps to a broken one", x.step(0, true), -12);
        // a chain: plank 0 goes, then nothing else
        x = Bench.told("planks 2 bear 9;plank 1 bears 4;person;person at 2;person;owes 0 to 2 of 10;owes 1 to 2 of 3;");
        B.due("falls", x.step(0, true), -1);
        B.due("only plank 0", x.count(7), 1);
    }

    private static void hand() {
        DebtBridge x = Bench.told("planks 2 bear 20;person;person;person at 1;owes 0 to 1 of 8;owes 1 to 0 of 4;");
        B.due("no such", x.hand(0, 3), -11);
        B.due("no such", x.hand(-1, 0), -11);
        B.due("both one", x.hand(0, 0), -11);
        B.due("not at one place", x.hand(0, 2), -12);
        B.due("who owe each other may", x.hand(0, 1), 1);
        B.due("both", x.person(1, 0), 1);
        B.due("load", x.plank(0, 1), 12);
        B.due("three", x.hand(1, 2), 2);
        B.due("0 stays", x.person(0, 0), 1);
        B.due("bank", x.hand(2, 1), 3);
        B.due("the last bank", x.hand(1, 2), -12);
        B.due("one call each", x.count(10), 3);
        x = Bench.told("planks 2 bear 11;person;person;owes 0 to 1 of 8;owes 1 to 0 of 4;");
        B.due("both fall", x.hand(1, 0), -1);
        B.due("fallen", x.count(2), 3);
        B.due("both fallen", x.hand(0, 1), -12);
        x = Bench.told("planks 2 bear 20;person;person;person;owes 0 to 1 of 8;owes 1 to 0 of 4;lets:weight<5;");
        B.due("the law for the first", x.hand(0, 2), -13);
        B.due("the law for the second", x.hand(2, 0), -13);
        B.due("let", x.hand(1, 2), 1);
        x = Bench.told("planks 2 bear 20;person;person;lets:others=0;");
        B.due("others: on planks as they are", x.hand(0, 1), 1);
        B.due("others: the other one", x.hand(0, 1), -13);
        x = Bench.told("planks 2 bear 5;plank 0 bears 0;person;person;person at 1;owes 2 to 0 of 1;");
        B.due("broken", x.hand(0, 1), -12);
    }

    private static void tear() {
        DebtBridge x = Bench.told("planks 2 bear 20;person at 1;person;owes 0 to 1 of 8;weighs:25-debt;");
        B.due("no such", x.tear(0, 2), -11);
        B.due("no such", x.tear(2, 0), -11);
        B.due("both one", x.tear(0, 0), -11);
        B.due("nothing", x.tear(1, 0), -12);
        B.due("nothing changes", x.count(10), 0);
        B.due("torn", x.tear(0, 1), 8);
        B.due("it is looked", x.count(7), 1);
        B.due("fallen", x.person(0, 0), -1);
        B.due("again", x.tear(0, 1), -12);
        B.due("undone", x.undo(1), 0);
        B.due("place", x.person(0, 0), 1);
        B.due("owes", x.owes(0, 1), 8);
        x = Bench.told("planks 2 bear 2;person at 1;person;owes 0 to 1 of 8;");
        B.due("of the fallen", x.tear(0, 1), 8);
    }

    private static void cancel() {
        DebtBridge x = Bench.told("planks 2 bear 20;person at 1;person;person;owes 0 to 1 of 8;owes 1 to 2 of 5;"
            + "owes 2 to 0 of 6;owes 1 to 0 of 3;weighs:26-debt;");
        B.due("no tray", x.cancel(4), -2);
        B.due("no tray", x.cancel(-1), -2);
        B.due("missing", x.cancel(0), -6);
        Bench.fill(x, 0);
        B.due("no numbers", x.cancel(0), -11);
        Bench.fill(x, 0, 1);
        B.due("one number", x.cancel(0), -11);
        Bench.fill(x, 0, 0, 1, 2, 0, 1, 2, 0);
        B.due("seven numbers", x.cancel(0), -11);
        Bench.fill(x, 0, 0, 3);
        B.due("no person", x.cancel(0), -11);
        Bench.fill(x, 0, 0, 1, 4294967296L);
        B.due("no person, beyond an int", x.cancel(0), -11);
        Bench.fill(x, 0, 0, 1, 0, 1);
        B.due("twice", x.cancel(0), -11);
        Bench.fill(x, 0, 0, 2, 0);
        B.due("twice, ahead of nothing owed", x.cancel(0), -11);
        Bench.fill(x, 0, 0, 2, 1);
        B.due("owes the next nothing", x.cancel(0), -12);
        Bench.fill(x, 0, 1, 0);
        B.due("two", x.cancel(0), 3);
        B.due("each less", x.owes(0, 1), 5);
        B.due("gone", x.count(5), 3);
        B.due("it is looked: 26 - 5 is above 20", x.person(0, 0), -1);
        Bench.fill(x, 0, 2, 0, 1);
        B.due("three, from any one on", x.cancel(0), 5);
        B.due("2 to 0", x.owes(2, 0), 1);
        B.due("papers", x.count(5), 1);
        B.due("debts", x.count(6), 1);
        B.due("debt", x.person(0, 1) + x.person(1, 1), 0);
        B.due("itself", x.owes(2, 2) + x.owes(0, 0), 0);
        DebtBridge y = Bench.told("planks 1 bear 9;person;person;person;person;person;person;owes 0 to 2 of 9;owes 2 to 4 of 8;"
            + "owes 4 to 1 of 7;owes 1 to 5 of 6;owes 5 to 3 of 5;owes 3 to 0 of 4;");
        Bench.fill(y, 0, 4, 1, 5, 3, 0, 2);
        B.due("six", y.cancel(0), 4);
        B.due("debts", y.count(6), 15);
        B.due("papers", y.count(5), 5);
        B.due("last one to the first", x.cancel(0), -12);
        B.due("undone", x.undo(2), 0);
        B.due("1 to 0", x.owes(1, 0), 3);
        B.due("2 to 0", x.owes(2, 0), 6);
        B.due("place", x.person(0, 0), 1);
    }

    private static void mend() {
        DebtBridge x = Bench.told("planks 2 bear 5;person at 1;person;owes 0 to 1 of 8;");
        B.due("no such", x.mend(2), -11);
        B.due("no such", x.mend(-1), -11);
        B.due("broken no more", x.mend(0), 5);
        B.due("not broken", x.plank(0, 2), 0);
        B.due("not whole then", x.plank(0, 3), 0);
        B.due("10 more", x.mend(0), 15);
        B.due("mended", x.plank(0, 3), 1);
        B.due("steps", x.step(0, true), -12);
        for (int i = 2; i <= 99; i++) {
            B.due("again", x.mend(0), 5 + 10 * i);
        }
        B.due("99 times at most", x.mend(0), -12);
        B.due("bears", x.plank(0, 0), 995);
        B.due("ten at most", x.count(10), 10);
        // a broken one that was mended 99 times can be mended
        x = Bench.told("planks 1 bear 0;person;person;owes 0 to 1 of 50;weighs:debt*snow*100;snowy 1;");
        for (int i = 1; i <= 99; i++) {
            x.mend(0);
        }
        x.step(0, true);
        B.due("snow", x.days(1), 1);
        B.due("broken", x.count(7), 1);
        B.due("mended", x.mend(0), 990);
        B.due("but not 10 more", x.mend(0), -12);
        // what lies beside breaks it again at once
        x = Bench.told("planks 2 bear 9;plank 1 bears 3;person at 1;person;owes 0 to 1 of 8;");
        B.due("broken beside", x.count(7), 2);
        B.due("mended", x.mend(1), 3);
        B.due("broken again", x.count(7), 2);
        B.due("it was done", x.count(10), 1);
    }

    private static void days() {
        DebtBridge x = Bench.told("planks 1 bear 0;snowy 6;day 997;");
        B.due("0", x.days(0), -3);
        B.due("100", x.days(100), -3);
        B.due("-1", x.days(-1), -3);
        B.due("nothing", x.count(10), 0);
        // draws modulo 10 from 0 on: 0 6 6 5 8 5 5 9 0 0 9 2
        B.due("first", x.days(1), 1);
        B.due("snows", x.count(9), 1);
        B.due("day", x.count(8), 998);
        B.due("x", x.seed(12345), 12345);
        B.due("second, third", x.days(2), 0);
        B.due("snows", x.count(9), 0);
        B.due("nine more", x.days(9), 6);
        B.due("day", x.count(8), 1009);
        B.due("99", x.days(99) >= 0 ? x.count(8) : -1, 1108);
        // every day is looked: it breaks on the day with snow, and stays so
        x = Bench.told("planks 1 bear 5;person at 1;weighs:snow*9;snowy 1;");
        B.due("the first one snows, the second doesn't", x.days(2), 1);
        B.due("snow", x.count(9), 0);
        B.due("fallen", x.person(0, 0), -1);
        x = Bench.told("planks 1 bear 5;person at 1;weighs:day*2;");
        x.days(2);
        B.due("4", x.person(0, 4), 4);
        x.days(5);
        B.due("fallen on day 3", x.person(0, 0), -1);
        B.due("day modulo 7", x.person(0, 4), 0);
    }

    private static void undo() {
        DebtBridge x = Bench.told("planks 2 bear 9;person;person;owes 0 to 1 of 3;snowy 10;day 1;");
        B.due("nothing", x.undo(1), -3);
        x.seed(77);
        x.days(1);
        x.step(0, true);
        x.mend(1);
        x.tear(0, 1);
        x.step(5, true);
        x.alone(0);
        B.due("five", x.count(10), 5);
        B.due("0", x.undo(0), -3);
        B.due("-1", x.undo(-1), -3);
        B.due("6", x.undo(6), -3);
        B.due("11", x.undo(11), -3);
        B.due("one", x.undo(1), 4);
        B.due("owes", x.owes(0, 1), 3);
        B.due("mended", x.plank(1, 3), 1);
        B.due("two", x.undo(2), 2);
        B.due("mended", x.plank(1, 3), 0);
        B.due("place", x.person(0, 0), 0);
        B.due("snow", x.count(9), 1);
        B.due("the day", x.undo(1), 1);
        B.due("snow", x.count(9), 0);
        B.due("day", x.count(8), 1);
        B.due("x", Bench.drawn(x), 77);
        B.due("the seed", x.undo(1), 0);
        B.due("x", Bench.drawn(x), 0);
        for (int i = 0; i < 14; i++) {
            x.step(0, i % 2 == 0);
        }
        x.days(3);
        B.due("ten at most", x.count(10), 10);
        B.due("ten", x.undo(10), 0);
        B.due("behind the fifth step", x.person(0, 0), 1);
        B.due("none", x.undo(1), -3);
        // what was broken and who fell come back
        x = Bench.told("planks 2 bear 9;person;person;owes 0 to 1 of 30;");
        B.due("falls", x.step(0, true), -1);
        B.due("undone", x.undo(1), 0);
        B.due("whole", x.count(7), 0);
        B.due("stands", x.person(0, 0), 0);
        undoEach();
    }

    /** Each call that does some is undone to what was right ahead of it. */
    private static void undoEach() {
        DebtBridge x = Bench.told("planks 2 bear 9;person;person;owes 0 to 1 of 3;owes 1 to 0 of 3;snowy 10;day 1;");
        Bench.fill(x, 0, 0, 1);
        Bench.fill(x, 1, 300);
        int[][] sights = new int[10][];
        for (int i = 0; i < 10; i++) {
            sights[i] = sight(x);
            switch (i) {
                case 0: x.hand(0, 1); break;
                case 1: x.mend(0); break;
                case 2: x.days(3); break;
                case 3: x.hand(1, 0); break;
                case 4: x.perform(1); break;
                case 5: x.cancel(0); break;
                case 6: x.mend(1); break;
                case 7: x.season(3, 9); break;
                case 8: x.step(0, false); break;
                default: x.season(7, 2); break;
            }
            B.due("done " + i, x.count(10), i + 1);
        }
        for (int i = 9; i >= 0; i--) {
            B.due("undone", x.undo(1), i);
            B.due("as ahead of " + i, java.util.Arrays.equals(sight(x), sights[i]) ? 1 : 0, 1);
        }
    }

    private static int[] sight(DebtBridge x) {
        return new int[] {Bench.drawn(x), x.count(2), x.count(3), x.count(4), x.count(5), x.count(6), x.count(7), x.count(8), x.count(9),
            x.person(0, 0), x.person(1, 0), x.plank(0, 0), x.plank(1, 0), x.owes(0, 1), x.owes(1, 0)};
    }

    private static void judge() {
        DebtBridge x = Bench.told("planks 2 bear 9;person;person;person;owes 0 to 1 of 30;snowy 3;lets:who<2;");
        B.due("no tray", x.judge(4, 0), -2);
        B.due("what 4, ahead of missing", x.judge(0, 4), -2);
        B.due("what -1", x.judge(0, -1), -2);
        B.due("missing", x.judge(0, 0), -6);
        Bench.fill(x, 0);
        B.due("none: place", x.judge(0, 0), -1);
        B.due("none: why", x.judge(0, 1), 0);
        judged(x, 0, 0, 1, 1, 0, 2, 1, 1, 1);
        B.due("nothing changes", x.count(10) + x.count(2) + x.count(3) + x.count(7), 0);
        // 1 steps over, 0 falls, and 2 can't come to the plank that broke
        Bench.fill(x, 0, 1, 1, 1, 0, 2, 1);
        B.due("place", x.judge(0, 0), 4);
        B.due("why", x.judge(0, 1), 2);
        B.due("fallen", x.judge(0, 2), 1);
        B.due("east", x.judge(0, 3), 2);
        Bench.fill(x, 1, -1, 201, 0, 10, 101, 101, 300, 301, -1);
        B.due("all can be", x.judge(1, 0), -1);
        B.due("why", x.judge(1, 1), 0);
        B.due("fallen", x.judge(1, 2), 0);
        Bench.fill(x, 1, 1, 11, 11);
        B.due("back and back", x.judge(1, 0), 2);
        B.due("why", x.judge(1, 1), 2);
        B.due("x stays", Bench.drawn(x), 0);
        B.due("day stays", x.count(8), 0);
        for (long v : new long[] {-2, 3, 9, 13, 19, 20, 99, 103, 111, 130, 200, 203, 230, 302, 309, 310, 400,
            4294967296L, Long.MAX_VALUE, Long.MIN_VALUE, -4294967297L}) {
            Bench.fill(x, 2, v);
            B.due("why of " + v, x.judge(2, 1), 1);
            B.due("place of " + v, x.judge(2, 0), 0);
        }
        Bench.fill(x, 2, 210);
        B.due("owes nothing", x.judge(2, 1), 2);
        x.numbers(2, 0, 0);
        B.due("no deeds, no why", x.judge(2, 1), 0);
        Bench.fill(x, 2, 102);
        B.due("the law", x.judge(2, 1), 3);
        x = Bench.told("planks 2 bear 9;person;person;owes 0 to 1 of 3;owes 1 to 0 of 3;");
        Bench.fill(x, 2, 101, 0);
        B.due("place", x.judge(2, 0), 1);
        B.due("owe each other", x.judge(2, 1), 4);
        // drawn: the first day snows with x 0, the second doesn't, and 0 weighs 5 only with snow
        x = Bench.told("planks 1 bear 4;person;person;weighs:snow*5;snowy 1;");
        Bench.fill(x, 0, -1, 0);
        B.due("falls", x.judge(0, 2), 1);
        Bench.fill(x, 0, -1, -1, 0, 0);
        B.due("gets over", x.judge(0, 3), 1);
    }

    private static void judged(DebtBridge x, long... deeds) {
        Bench.fill(x, 3, deeds);
        B.due("fallen 0 can't go on", x.judge(3, 0), 1);
        B.due("why", x.judge(3, 1), 2);
    }

    private static void perform() {
        DebtBridge x = Bench.told("planks 2 bear 9;person;person;owes 0 to 1 of 5;snowy 1;");
        B.due("no tray", x.perform(4), -2);
        B.due("missing", x.perform(0), -6);
        Bench.fill(x, 0);
        B.due("none", x.perform(0), 0);
        Bench.fill(x, 0, 10, 0);
        B.due("the first can't be", x.perform(0), 0);
        B.due("nothing to be undone", x.count(10), 0);
        Bench.fill(x, 0, 0, -1, 301, 0, 201, 210, 1);
        B.due("till one can't be", x.perform(0), 5);
        B.due("one call", x.count(10), 1);
        B.due("place", x.person(0, 0), 2);
        B.due("snow", x.count(9), 1);
        B.due("bears", x.plank(1, 0), 19);
        B.due("papers", x.count(5), 0);
        B.due("the rest isn't done", x.person(1, 0), 0);
        B.due("undone as a whole", x.undo(1), 0);
        B.due("place", x.person(0, 0), 0);
        B.due("day", x.count(8), 0);
        B.due("x", Bench.drawn(x), 0);
        B.due("papers", x.count(5), 1);
        Bench.fill(x, 0, 101, 101, 101);
        B.due("hand in hand", x.perform(0), 3);
        B.due("east", x.count(3), 3);
        Bench.fill(x, 0, 11, 11, 11);
        B.due("back", x.perform(0), 3);
        B.due("east", x.count(3), 1);
    }

    private static void season() {
        DebtBridge x = Bench.told("planks 2 bear 9;person;person;person;person;person;person;snowy 5;");
        B.due("0 times", x.season(1, 0), -3);
        B.due("41 times", x.season(1, 41), -3);
        // draws modulo 6 from 3 on: 1 3, 3 4, 2 4, 3 3, 4 3 1
        B.due("one", x.season(3, 1), 1);
        B.due("3 steps", x.person(3, 0), 1);
        B.due("undone", x.undo(1), 0);
        B.due("x", Bench.drawn(x), 0);
        B.due("four", x.season(3, 4), 4);
        B.due("3 twice", x.person(3, 0), 2);
        B.due("4 twice", x.person(4, 0), 2);
        B.due("one call", x.count(10), 1);
        x.undo(1);
        B.due("the fifth: hand in hand of 3 and 1 can't be", x.season(3, 5), 4);
        x.undo(1);
        // from 4 on: 5 0 5: a paper that isn't; it can't be: nothing changes
        x.seed(88);
        B.due("none", x.season(4, 1), 0);
        B.due("x stays", Bench.drawn(x), 88);
        B.due("nothing to be undone but the seed", x.count(10), 1);
        // from 7 on: 0 and a draw (6 modulo 10) for the snow, then 2 0: PERSON 0 steps
        B.due("a day, a step", x.season(7, 2), 2);
        B.due("day", x.count(8), 1);
        B.due("no snow", x.count(9), 0);
        B.due("0 steps", x.person(0, 0), 1);
        int drawn = 7;
        for (int i = 0; i < 4; i++) {
            drawn = 1103515245 * drawn + 12345;
        }
        B.due("x", Bench.drawn(x), drawn);
        x = Bench.told("planks 2 bear 9;person;person;person;person;person;person;owes 0 to 5 of 4;");
        B.due("0 to 5 is torn", x.season(4, 1), 1);
        B.due("papers", x.count(5), 0);
        // from 2 on: 4 5 5 (both one), 4 3 5: hand in hand
        x = Bench.told("planks 2 bear 9;person;person;person;person;person;person;");
        B.due("hand in hand", x.season(2, 2), 1);
        B.due("both", x.count(4), 40);
        DebtBridge y = Bench.told("planks 2 bear 9;");
        B.due("40 times, days alone", y.season(1, 40), y.count(8));
    }
}
