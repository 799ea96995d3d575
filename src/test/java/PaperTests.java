/** Promises 36 to 40: which paper was torn; chances. */
public final class PaperTests {
    private static final Bench B = new Bench("PaperTests");

    public static void main(String[] args) {
        torn();
        tornAt();
        weighed();
        chance();
        likely();
        B.end();
    }

    private static DebtBridge bridge() {
        return Bench.told("planks 2 bear 20;person;person;person;owes 0 to 1 of 5;owes 0 to 2 of 5;owes 1 to 2 of 3;"
            + "owes 2 to 0 of 4;");
    }

    private static int tornBy(DebtBridge x, long... seen) {
        Bench.fill(x, 2, seen);
        return x.torn(2);
    }

    private static void codes() {
        DebtBridge x = bridge();
        for (int tray = -1; tray <= 4; tray++) {
            int code = tray == -1 || tray == 4 ? -2 : -6;
            B.due("torn", x.torn(tray), code);
            B.due("tornAt", x.tornAt(tray, 0), code);
            B.due("tornAt, k below 0 behind", x.tornAt(tray, -1), code);
            B.due("weighed", x.weighed(tray), code);
        }
        for (int n : new int[] {0, 2, 4}) {
            x.numbers(0, 0, n);
            B.due("torn", x.torn(0), -4);
            B.due("tornAt, k below 0 behind", x.tornAt(0, -1), -4);
            B.due("weighed", x.weighed(0), -4);
        }
    }

    private static void torn() {
        codes();
        DebtBridge x = bridge();
        // they weigh 10, 3, 4
        B.due("nothing seen: all", tornBy(x, -1, -1, -1), 4);
        B.due("0 weighs 5", tornBy(x, 5, -1, -1), 2);
        B.due("0 weighs 10", tornBy(x, 10, -1, -1), 2);
        B.due("10 and 3", tornBy(x, 10, 3, -1), 1);
        B.due("as now: one must be torn", tornBy(x, 10, 3, 4), 0);
        B.due("-2 isn't unseen", tornBy(x, -2, -1, -1), 0);
        B.due("beyond an int", tornBy(x, 4294967301L, -1, -1), 0);
        B.due("nothing is torn", x.count(5), 4);
        B.due("no people, no numbers", tornBy(new DebtBridge()), 0);
        x = Bench.told("planks 2 bear 20;person;person;owes 0 to 1 of 5;weighs:owed+snow;snowy 10;");
        B.due("owed weighs", tornBy(x, -1, 0), 1);
        x.days(1);
        B.due("today", tornBy(x, -1, 0), 0);
        B.due("today", tornBy(x, 1, 1), 1);
    }

    private static void tornAt() {
        DebtBridge x = bridge();
        Bench.fill(x, 2, -1, -1, -1);
        B.due("0", x.tornAt(2, 0), 1);
        B.due("1", x.tornAt(2, 1), 2);
        B.due("2", x.tornAt(2, 2), 12);
        B.due("3", x.tornAt(2, 3), 20);
        B.due("not so many", x.tornAt(2, 4), -1);
        B.due("not so many", x.tornAt(2, 2000000000), -1);
        B.due("below 0", x.tornAt(2, -1), -3);
        Bench.fill(x, 2, 10, -1, -1);
        B.due("0", x.tornAt(2, 0), 12);
        B.due("1", x.tornAt(2, 1), 20);
        B.due("2", x.tornAt(2, 2), -1);
    }

    private static void weighed() {
        DebtBridge x = bridge();
        Bench.fill(x, 2, -1, -1, -1);
        // 0: 5 5 10 10, 1: 3 3 0 3, 2: 4 4 4 0
        B.due("0 tells most", x.weighed(2), 0);
        Bench.fill(x, 2, 10, -1, -1);
        B.due("0: 10 10; 1: 0 3", x.weighed(2), 1);
        Bench.fill(x, 2, 5, -1, -1);
        B.due("nobody tells: the first", x.weighed(2), 0);
        Bench.fill(x, 2, 10, 3, 4);
        B.due("none", x.weighed(2), -1);
        Bench.fill(x, 2, -1, 0, -1);
        B.due("one paper: the first", x.weighed(2), 0);
        x = Bench.told("planks 2 bear 20;person;person;person;owes 0 to 1 of 5;owes 0 to 2 of 5;owes 1 to 2 of 3;"
            + "owes 2 to 0 of 4;weighs:debt*who+owed*3;");
        Bench.fill(x, 2, -1, -1, -1);
        // 0: 12 12 12 0; 1: 3 18 15 18; 2: 32 17 23 24: all unlike
        B.due("2", x.weighed(2), 2);
        B.due("no people", tornBy(new DebtBridge()) == 0 ? noneWeighed() : 0, -1);
    }

    private static int noneWeighed() {
        DebtBridge x = new DebtBridge();
        x.numbers(2, 0, 0);
        return x.weighed(2);
    }

    private static void chance() {
        // 0 gets over only with snow
        DebtBridge x = Bench.told("planks 2 bear 5;person;person;weighs:9-snow*5-who*9;snowy 4;day 5;");
        B.due("no such", x.chance(2, 1, 0), -2);
        B.due("no such", x.chance(-1, 1, 0), -2);
        B.due("what 2", x.chance(0, 1, 2), -2);
        B.due("what -1, ahead of n", x.chance(0, 16, -1), -2);
        B.due("n 16", x.chance(0, 16, 0), -3);
        B.due("n -1", x.chance(0, -1, 1), -3);
        B.due("no days", x.chance(0, 0, 0), 0);
        B.due("no days", x.chance(0, 0, 1), 1);
        B.due("2 in 5", x.chance(0, 1, 0), 2);
        B.due("2 in 5", x.chance(0, 1, 1), 5);
        B.due("16 in 25", x.chance(0, 2, 0), 16);
        B.due("16 in 25", x.chance(0, 2, 1), 25);
        // 5 to the 15th less 3 to the 15th
        B.due("15 days", x.chance(0, 15, 0), 30517578125L - 14348907L);
        B.due("15 days", x.chance(0, 15, 1), 30517578125L);
        B.due("always", x.chance(1, 15, 0), 1);
        B.due("always", x.chance(1, 15, 1), 1);
        B.due("nothing changes", x.count(8) + x.count(9), 5);
        x = Bench.told("planks 2 bear 5;person;weighs:9-snow*5;snowy 3;");
        B.due("10 to the 15th less 7 to the 15th", x.chance(0, 15, 0), 1000000000000000L - 4747561509943L);
        B.due("10 to the 15th", x.chance(0, 15, 1), 1000000000000000L);
        x = Bench.told("planks 2 bear 5;person;weighs:9*snow;snowy 3;day 6;lets:day=1;");
        // day 7 is 0, day 8 is 1: then it gets over without snow
        B.due("not tomorrow", x.chance(0, 1, 0), 0);
        B.due("not tomorrow", x.chance(0, 1, 1), 1);
        B.due("7 in 10", x.chance(0, 2, 0), 7);
        B.due("7 in 10", x.chance(0, 2, 1), 10);
        B.due("a week on: 91 in 100", x.chance(0, 9, 0), 91);
        B.due("91 in 100", x.chance(0, 9, 1), 100);
        B.due("day 14: still", x.chance(0, 8, 0), 7);
        x = Bench.told("planks 2 bear 5;person;person at 1;weighs:9*who;snowy 3;");
        B.due("broken", x.chance(0, 15, 0), 0);
        x = Bench.told("planks 2 bear 5;person;weighs:9-snow*5;snowy 10;");
        B.due("it always snows", x.chance(0, 1, 0), 1);
        x = Bench.told("planks 2 bear 5;person;weighs:9-snow*5;snowy 0;");
        B.due("it never snows", x.chance(0, 15, 0), 0);
    }

    private static void likely() {
        DebtBridge x = Bench.told("planks 2 bear 5;person;person;weighs:9-snow*5-who*9;snowy 5;");
        B.due("no such", x.likely(2, 50), -2);
        B.due("no such, ahead of m", x.likely(-1, 101), -2);
        B.due("101", x.likely(0, 101), -3);
        B.due("-1", x.likely(0, -1), -3);
        B.due("0", x.likely(0, 0), 0);
        B.due("1", x.likely(0, 1), 1);
        B.due("50", x.likely(0, 50), 1);
        B.due("51", x.likely(0, 51), 2);
        B.due("75", x.likely(0, 75), 2);
        B.due("76", x.likely(0, 76), 3);
        B.due("99", x.likely(0, 99), 7);
        B.due("100", x.likely(0, 100), -1);
        B.due("always", x.likely(1, 100), 1);
        x = Bench.told("planks 2 bear 5;person;weighs:9-snow*5;snowy 1;");
        // 1 - 0.9 to the n: 15 days are 79.4 in 100
        B.due("79", x.likely(0, 79), 15);
        B.due("80", x.likely(0, 80), -1);
    }
}
