/** Promises 41 to 46: trays, images, counts. */
public final class TrayTests {
    private static final Bench B = new Bench("TrayTests");

    public static void main(String[] args) {
        numbers();
        write();
        lists();
        image();
        restore();
        count();
        B.end();
    }

    private static void numbers() {
        DebtBridge x = new DebtBridge();
        B.due("no tray", x.numbers(4, 0, 1), -2);
        B.due("no tray", x.numbers(-1, 0, 1), -2);
        B.due("no sort", x.numbers(0, 4, 1), -2);
        B.due("no sort, ahead of n", x.numbers(0, -1, 41), -2);
        B.due("n -1", x.numbers(0, 0, -1), -3);
        B.due("n 41", x.numbers(0, 0, 41), -3);
        B.due("still missing", x.lists(0), -6);
        B.due("made", x.numbers(0, 2, 40), 0);
        B.due("last", x.write(0, 39, 5), 5);
        B.due("stays", x.numbers(0, 0, 41), -3);
        B.due("of its sort, too", x.write(0, 39, 70000), 70000);
        B.due("in place of it", x.numbers(0, 3, 1), 0);
        B.due("shorter", x.write(0, 1, 5), -7);
        B.due("empty", x.numbers(1, 0, 0), 0);
        B.due("none there", x.write(1, 0, 1), -7);
        // all are 0 again: a day (-1) would be undone
        x = Bench.told("planks 2 bear 9;person;");
        Bench.fill(x, 0, -1, -1);
        B.due("again", x.numbers(0, 3, 2), 0);
        B.due("0 and 0: two steps", x.perform(0), 2);
        B.due("place", x.person(0, 0), 2);
    }

    private static void write() {
        DebtBridge x = new DebtBridge();
        B.due("no tray", x.write(4, 0, 1), -2);
        B.due("no tray", x.write(-1, 0, 1), -2);
        B.due("missing", x.write(0, 0, 1), -6);
        for (int sort = 0; sort <= 3; sort++) {
            x.numbers(sort, sort, 2);
        }
        B.due("i -1", x.write(0, -1, 1), -7);
        B.due("i 2", x.write(0, 2, 1), -7);
        B.due("8 bits", x.write(0, 0, 127), 127);
        B.due("8 bits", x.write(0, 1, 128), -128);
        B.due("8 bits", x.write(0, 0, 511), -1);
        B.due("16 bits", x.write(1, 0, 32767), 32767);
        B.due("16 bits", x.write(1, 0, 32768), -32768);
        B.due("16 bits", x.write(1, 0, -65537), -1);
        B.due("32 bits", x.write(2, 0, 2147483647L), 2147483647L);
        B.due("32 bits", x.write(2, 0, 2147483648L), -2147483648L);
        B.due("64 bits", x.write(3, 0, Long.MIN_VALUE), Long.MIN_VALUE);
        B.due("64 bits", x.write(3, 1, Long.MAX_VALUE), Long.MAX_VALUE);
    }

    private static void lists() {
        DebtBridge x = Bench.told("planks 2 bear 9;person;person;person;owes 0 to 1 of 9;owes 1 to 0 of 8;weighs:debt*20;");
        B.due("no tray", x.lists(4), -2);
        B.due("no tray", x.lists(-1), -2);
        B.due("missing", x.lists(0), -6);
        Bench.fill(x, 0, 7, 7, 7);
        B.due("all", x.lists(0), 3);
        B.due("what they weigh now: none torn", x.torn(0), 0);
        x.tear(0, 1);
        Bench.fill(x, 0, 7, 7, 7);
        B.due("all", x.lists(0), 3);
        x.undo(1);
        B.due("that was torn", x.tornAt(0, 0), 1);
        B.due("what they weigh, undone", x.lists(0), 3);
        B.due("none torn", x.torn(0), 0);
        B.due("empty", x.numbers(1, 0, 0), 0);
        B.due("no places", x.lists(1), 0);
        Bench.fill(x, 1, 7, 7);
        B.due("as far as it has places", x.lists(1), 2);
        Bench.fill(x, 1, 7, 7, 7, 7);
        B.due("more places than people", x.lists(1), 3);
        B.due("no people", Bench.tell(x, "planks 2 bear 9;") == 1 ? x.lists(1) : -9, 0);
        // 0, 0, 0 and what stood there: 101 in place 3
        x = Bench.told("planks 2 bear 9;person;person;person;");
        Bench.fill(x, 1, 7, 7, 7, 102);
        x.lists(1);
        B.due("0 steps three times, 0 and 2 can't then", x.perform(1), 3);
        // 8 bits: 180 is -76
        x = Bench.told("planks 2 bear 9;person;person;owes 0 to 1 of 9;weighs:debt*20;");
        x.numbers(0, 0, 2);
        B.due("cut", x.lists(0), 2);
        B.due("no weight is that", x.torn(0), 0);
        // 8 bits: 255 is -1, which is a day
        x = Bench.told("planks 2 bear 9;person;weighs:255;");
        x.numbers(0, 0, 1);
        x.lists(0);
        B.due("a day", x.perform(0), 1);
        B.due("day", x.count(8), 1);
    }

    private static void image() {
        DebtBridge x = new DebtBridge();
        B.due("no image", x.image(2), -2);
        B.due("no image", x.image(-1), -2);
        B.due("made", x.image(0), 0);
        B.due("of a new object", Bench.tell(x, "planks 2 bear 9;person;") == 2 ? x.restore(0) : -9, 0);
        B.due("planks", x.count(0), 1);
        B.due("people", x.count(1), 0);
        B.due("lines", x.count(12), 0);
        x = Bench.told("planks 2 bear 9;person;");
        x.step(0, true);
        x.image(1);
        B.due("what can be undone stays", x.count(10), 1);
        x.step(0, true);
        x.image(1);
        x.step(0, true);
        B.due("the later one", x.restore(1) == 0 ? x.person(0, 0) : -9, 2);
    }

    private static void restore() {
        DebtBridge x = Bench.told("planks 3 bear 19;person;person;person at 2;owes 0 to 1 of 3;owes 1 to 0 of 4;owes 2 to 0 of 5;"
            + "weighs:debt*2+snow*20*(who-1);lets:who<2 or plank>0;snowy 10;day 3;");
        B.due("no image", x.restore(2), -2);
        B.due("no image", x.restore(-1), -2);
        B.due("none was made", x.restore(0), -5);
        x.mend(0);
        x.days(1);
        B.due("2 fell", x.count(2), 4);
        x.seed(321);
        B.due("made", x.image(0), 0);
        B.due("none was made", x.restore(1), -5);
        x.numbers(0, 0, 3);
        Bench.feed(x, "planks 1 bear 0;");
        x.bridge(7);
        B.due("a fault", x.fault(0), 2);
        Bench.tell(x, "planks 1 bear 0;person at 2;day 7;");
        Bench.feed(x, "planks 5 bear 5;");
        x.days(2);
        x.image(1);
        B.due("restored", x.restore(0), 0);
        B.due("planks", x.count(0), 3);
        B.due("people", x.count(1), 3);
        B.due("fallen", x.count(2), 4);
        B.due("papers", x.count(5), 3);
        B.due("debts", x.count(6), 12);
        B.due("broken", x.count(7), 2);
        B.due("day", x.count(8), 4);
        B.due("snow", x.count(9), 1);
        B.due("nothing can be undone", x.count(10), 0);
        B.due("the tape stays", x.count(11), 20);
        B.due("lines", x.count(12), 11);
        B.due("x", Bench.drawn(x), 321);
        B.due("mended", x.plank(0, 0), 29);
        B.due("weighs", x.person(0, 4), 0);
        B.due("weighs", x.person(1, 4), 8);
        B.due("lets", x.alone(2), 0);
        B.due("the fault of the latest read stays", x.fault(0), 0);
        B.due("trays stay", x.lists(0), 3);
        B.due("undo", x.undo(1), -3);
        x.tear(0, 1);
        x.mend(1);
        B.due("again", x.restore(0), 0);
        B.due("as it was", x.owes(0, 1), 3);
        B.due("as it was", x.count(7), 2);
        B.due("the other one", x.restore(1), 0);
        B.due("planks", x.count(0), 1);
        B.due("day", x.count(8), 9);
        B.due("east", x.count(3), 1);
    }

    private static void count() {
        DebtBridge x = Bench.told("planks 3 bear 9;person at 1;person at 4;person at 3;person at 2;person;owes 0 to 1 of 3;"
            + "owes 1 to 0 of 4;owes 3 to 0 of 10;snowy 10;day 41;");
        // 3 breaks plank 1 and falls; plank 0 bears 3
        int[] due = {3, 5, 8, 2, 5, 3, 17, 2, 41, 0, 0, 0, 11};
        for (int what = 0; what <= 12; what++) {
            B.due("count(" + what + ")", x.count(what), due[what]);
        }
        B.due("count(-1)", x.count(-1), -1);
        B.due("count(13)", x.count(13), -1);
        x.days(1);
        x.tear(0, 1);
        x.feed(0, 0, 0, 0, 0);
        B.due("papers", x.count(5), 2);
        B.due("debts", x.count(6), 14);
        B.due("day", x.count(8), 42);
        B.due("snow", x.count(9), 1);
        B.due("undoable", x.count(10), 2);
        B.due("tape", x.count(11), 20);
    }
}
