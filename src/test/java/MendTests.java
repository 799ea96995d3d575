/** Promises 33 to 35: the fewest mends. */
public final class MendTests {
    private static final Bench B = new Bench("MendTests");

    public static void main(String[] args) {
        mends();
        mendsAt();
        mendsAll();
        B.end();
    }

    private static DebtBridge bridge() {
        // plank 1 breaks under 2; 0 weighs 25, 1 weighs 14, 2 weighs 9
        return Bench.told("planks 3 bear 14;plank 1 bears 4;person;person;person at 2;owes 0 to 1 of 25;owes 1 to 0 of 14;"
            + "owes 2 to 0 of 9;");
    }

    private static void mends() {
        DebtBridge x = bridge();
        B.due("0: 2, broken 1 and 3, 2", x.mends(0), 8);
        B.due("1: broken 1 and 1", x.mends(1), 2);
        B.due("2, fallen: broken 1 and 1", x.mends(2), 2);
        B.due("no such", x.mends(3), -2);
        B.due("no such", x.mends(-1), -2);
        B.due("nothing is mended", x.count(10), 0);
        B.due("none needed", Bench.told("planks 2 bear 9;person;").mends(0), 0);
        B.due("the law", Bench.told("planks 2 bear 9;person;lets:plank=0;").mends(0), -1);
        x = Bench.told("planks 2 bear 9;person;person;weighs:999;");
        B.due("99 times each", x.mends(0), 198);
        x = Bench.told("planks 2 bear 8;person;person;weighs:999;");
        B.due("99 times aren't enough", x.mends(0), -1);
        x = Bench.told("planks 2 bear 9;plank 1 bears 29;person;person;weighs:999;");
        B.due("99 and 97", x.mends(0), 196);
        x.mend(1);
        B.due("99 and 96", x.mends(0), 195);
        x = Bench.told("planks 1 bear 9;person;person at 1;weighs:999+who;");
        B.due("broken: 99 times whole and once", x.mends(0), 100);
        B.due("a thousand: 100 times would be", x.mends(1), -1);
    }

    private static void mendsAt() {
        DebtBridge x = bridge();
        B.due("0 at 0", x.mendsAt(0, 0), 2);
        B.due("0 at 1", x.mendsAt(0, 1), 4);
        B.due("0 at 2", x.mendsAt(0, 2), 2);
        B.due("1 at 0", x.mendsAt(1, 0), 0);
        B.due("1 at 1", x.mendsAt(1, 1), 2);
        B.due("no plank", x.mendsAt(0, 3), -2);
        B.due("no plank", x.mendsAt(0, -1), -2);
        B.due("no such", x.mendsAt(3, 0), -2);
        x = Bench.told("planks 2 bear 9;person;lets:plank=0;");
        B.due("by none, wherever", x.mendsAt(0, 0), -1);
        B.due("no plank, ahead of none", x.mendsAt(0, 2), -2);
        x = Bench.told("planks 2 bear 9;person;weighs:10;");
        B.due("one more", x.mendsAt(0, 0), 1);
        x = Bench.told("planks 2 bear 9;person;weighs:19;");
        B.due("one is enough", x.mendsAt(0, 0), 1);
        x = Bench.told("planks 2 bear 9;person;weighs:20;");
        B.due("two", x.mendsAt(0, 0), 2);
    }

    private static void mendsAll() {
        B.due("all", bridge().mendsAll(), 8);
        B.due("no people", new DebtBridge().mendsAll(), 0);
        DebtBridge x = Bench.told("planks 2 bear 9;person;person;lets:who=0;");
        B.due("1 can't", x.mendsAll(), -1);
        B.due("0 can't", Bench.told("planks 2 bear 9;person;person;lets:who=1;").mendsAll(), -1);
        x = Bench.told("planks 2 bear 9;person;person;person;weighs:who*10;");
        B.due("as the heaviest needs", x.mendsAll(), 4);
        x = Bench.told("planks 2 bear 8;person;person;weighs:999*who;");
        B.due("not enough", x.mendsAll(), -1);
        x = Bench.told("planks 2 bear 8;person at 1;person;weighs:9-9*who;");
        B.due("broken", x.count(7), 1);
        B.due("1 for 1, 2 and 1 for 0", x.mendsAll(), 3);
    }
}
