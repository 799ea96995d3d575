/** Promises 1 to 7: a new object, and the bridge. */
public final class BridgeTests {
    private static final Bench B = new Bench("BridgeTests");
    private static final String TWO = "planks 2 bear 5;";

    public static void main(String[] args) {
        newObject();
        feed();
        bridge();
        struck();
        faults();
        good();
        laws();
        truths();
        person();
        owes();
        plank();
        B.end();
    }

    private static void newObject() {
        DebtBridge x = new DebtBridge();
        B.due("NONE", DebtBridge.NONE, -1);
        B.due("planks", x.count(0), 1);
        for (int what = 1; what <= 12; what++) {
            B.due("new count(" + what + ")", x.count(what), 0);
        }
        for (int what = 0; what <= 3; what++) {
            B.due("new plank(0, " + what + ")", x.plank(0, what), 0);
            B.due("new lists(" + what + ")", x.lists(what), -6);
        }
        B.due("new plank(1, 0)", x.plank(1, 0), -2);
        B.due("new fault(0)", x.fault(0), 0);
        B.due("new fault(1)", x.fault(1), -1);
        B.due("new restore(0)", x.restore(0), -5);
        B.due("new restore(1)", x.restore(1), -5);
        B.due("new undo(1)", x.undo(1), -3);
        B.due("new seed(7)", x.seed(7), 0);
        DebtBridge y = new DebtBridge();
        B.due("another one's seed", y.seed(1), 0);
    }

    private static void feed() {
        DebtBridge x = new DebtBridge();
        for (int i = 1; i <= 45; i++) {
            B.due("feed " + i, x.feed(0x20202020, 0x20202020, 0x20202020, 0x20202020, 0x20202020), 20 * i);
        }
        B.due("feed beyond 900", x.feed(0, 0, 0, 0, 0), -5);
        B.due("tape", x.count(11), 900);
        B.due("900 blanks", x.bridge(900), -32);
        B.due("their end", x.fault(1), 900);
        // "planks 1 bear 7;" with its highest bytes first, then four bytes that aren't read
        B.due("feed", x.feed(0x706c616e, 0x6b732031, 0x20626561, 0x7220373b, -1), 20);
        B.due("bridge(16)", x.bridge(16), 1);
        B.due("bears", x.plank(0, 0), 7);
    }

    private static void bridge() {
        DebtBridge x = new DebtBridge();
        B.due("n above", x.bridge(1), -3);
        Bench.feed(x, TWO);
        B.due("n below", x.bridge(-1), -3);
        B.due("n above", x.bridge(21), -3);
        B.due("the tape stays", x.count(11), 20);
        B.due("with blanks behind", x.bridge(20), 1);
        B.due("the tape is empty", x.count(11), 0);
        B.due("bridge(0)", x.bridge(0), -32);
        B.due("two texts, the first read", Bench.feed(x, TWO + "    planks 3 bear 5;") > 0 ? x.bridge(16) : 0, 1);
        B.due("the rest is gone", x.count(11), 0);
        Bench.feed(x, "planks 2 bear 55;day 12;");
        B.due("cut in a number", x.bridge(15), -32);
        B.due("its end", x.fault(1), 15);
        Bench.feed(x, "planks 2 bear 55;days;");
        B.due("cut in a word", x.bridge(20), -32);
        B.due("its end", x.fault(1), 20);
        Bench.feed(x, "planks 2 bear 555555;");
        B.due("cut ahead of a fourth digit", x.bridge(17), -32);
        B.due("its end", x.fault(1), 17);

        // who weighs too much falls at once; what lies beside is looked at then, without it
        x = Bench.told("planks 3 bear 5;plank 1 bears 2;person at 1;person;owes 0 to 1 of 6;");
        B.due("broken", x.count(7), 1);
        B.due("fallen", x.count(2), 1);
        B.due("plank 0 breaks first, plank 1 has no load then", x.plank(1, 2), 0);
        x = Bench.told("planks 3 bear 9;plank 1 bears 2;person at 1;person;owes 0 to 1 of 6;");
        B.due("beside breaks", x.count(7), 2);
        B.due("nobody on it", x.count(2), 0);

        // with a fault all stays but the tape; else x is 0, no snow, nothing can be undone
        x = Bench.told("planks 2 bear 9;person;person;owes 0 to 1 of 6;snowy 10;day 3;");
        x.seed(99);
        x.days(1);
        x.step(0, true);
        int drawn = 1103515245 * 99 + 12345;
        B.due("a fault", Bench.tell(x, "planks 3 bear 5;person;x"), -32);
        B.due("planks", x.count(0), 2);
        B.due("people", x.count(1), 2);
        B.due("day", x.count(8), 4);
        B.due("snow", x.count(9), 1);
        B.due("undoable", x.count(10), 3);
        B.due("lines", x.count(12), 6);
        B.due("tape", x.count(11), 0);
        B.due("place", x.person(0, 0), 1);
        B.due("x", Bench.drawn(x), drawn);
        B.due("another one", Bench.tell(x, "planks 3 bear 5;person;day 8;"), 3);
        B.due("planks", x.count(0), 3);
        B.due("people", x.count(1), 1);
        B.due("papers", x.count(5), 0);
        B.due("day", x.count(8), 8);
        B.due("snow", x.count(9), 0);
        B.due("undoable", x.count(10), 0);
        B.due("lines", x.count(12), 3);
        B.due("x", x.seed(5), 0);
        B.due("no law, no snow from before", x.person(0, 4), 0);
        B.due("snowy 0 as long as it isn't told", x.days(1), 0);

        // planks told anew are whole, and not mended
        x = Bench.told("planks 2 bear 9;person at 1;weighs:20;");
        x.mend(1);
        B.due("broken", x.count(7), 1);
        B.due("another one", Bench.tell(x, "planks 2 bear 9;person;"), 2);
        B.due("whole", x.count(7), 0);
        B.due("not mended", x.plank(1, 3), 0);
    }

    private static void struck() {
        DebtBridge x = Bench.told("planks 3 bear 9;plank 1 bears 4;plank 1 bears 8;person at 1 at 4 at 2;person;"
            + "owes 0 to 1 of 7;owes 1 to 0 of 2;owes 0 to 1 of 3;weighs:1;weighs:debt+2;snowy 10;snowy 0;day 5;day 6;"
            + "lets:1=2;lets:1=1;");
        B.due("lines", x.count(12), 16);
        B.due("plank", x.plank(1, 0), 8);
        B.due("at", x.person(0, 0), 2);
        B.due("owes", x.owes(0, 1), 3);
        B.due("of the other two", x.owes(1, 0), 2);
        B.due("weighs", x.person(0, 4), 5);
        B.due("day", x.count(8), 6);
        B.due("snowy", x.days(20), 0);
        B.due("lets", x.alone(1), -1);
    }

    private static void fault(String text, int kind, int place) {
        DebtBridge x = new DebtBridge();
        B.due("fault of " + text, Bench.tell(x, text), -30 - kind);
        B.due("kind in " + text, x.fault(0), kind);
        B.due("place in " + text, x.fault(1), place);
        B.due("fault(2)", x.fault(2), -1);
        B.due("fault(-1)", x.fault(-1), -1);
        B.due("stays", x.count(12), 0);
    }

    private static void faults() {
        fault("", 2, 0);
        fault("   ", 2, 3);
        fault("planks", 2, 6);
        fault("planks 2 bear 5", 2, 15);
        fault("planks 2 bear 5  \n", 2, 18);
        fault("planks 2 bear 5;;", 2, 16);
        fault("planks 2 bears 5;", 2, 9);
        fault("plank 0 bears 5;", 2, 0);
        fault("planks two bear 5;", 2, 7);
        fault("planks 0 bear 5;", 3, 7);
        fault("planks 9 bear 5;", 3, 7);
        fault("planks 0002 bear 5;", 1, 7);
        fault("planks 12345 bear 5;", 1, 7);
        fault("Planks 2 bear 5;", 1, 0);
        fault("xlanks 2 bear 5;", 2, 0);
        fault("zoo 2 bear 5;", 2, 0);
        fault("planks 2 bear day 1;", 2, 14);
        fault("planks 2 bear person;", 2, 14);
        fault("planks day 1;", 2, 7);
        fault(TWO + "plank 0 bears day 1;", 2, 30);
        fault(TWO + "plank day 1;", 2, 22);
        fault(TWO + "snowy day 1;", 2, 22);
        fault(TWO + "day day 1;", 2, 20);
        fault(TWO + "person at day 1;", 2, 26);
        fault(TWO + "person;person;owes 0 to 1 of day 1;", 2, 45);
        fault(TWO + "person;person;owes day 1;", 2, 35);
        fault(TWO + "weighs day 1;", 2, 23);
        fault(TWO + "lets day 1;", 2, 21);
        fault(TWO + "day 1 day 1;", 2, 22);
        fault(TWO + "weighs:1*;", 2, 25);
        fault(TWO + "weighs:1*-1;", 2, 25);
        fault(TWO + "weighs:();", 2, 24);
        fault(TWO + "lets:1=1 and;", 2, 28);
        fault(TWO + "lets:1=;", 2, 23);
        fault(TWO + "lets:not;", 2, 24);
        fault(TWO + "lets:;", 2, 21);
        fault(TWO + "lets:[];", 2, 22);
        fault("plAnks 2 bear 5;", 2, 0);
        fault("\tplanks 2 bear 5;", 1, 0);
        fault(TWO + "day 1;#", 1, 22);
        fault(TWO + "day\r1;", 1, 19);
        fault(TWO + "day \u00e91;", 1, 20);
        fault(TWO + "day 1.", 1, 21);
        fault(TWO + "planks 2 bear 5;", 2, 16);
        fault(TWO + "plankss 1 bears 2;", 2, 16);
        fault(TWO + "plank 2 bears 2;", 3, 22);
        fault(TWO + "plank 1 bear 2;", 2, 24);
        fault(TWO + "plank 1 bears 1000;", 1, 30);
        fault(TWO + "plank 2 bears #;", 3, 22);
        fault(TWO + "person at 4;", 3, 26);
        fault(TWO + "person at at 1;", 2, 26);
        fault(TWO + "person at 1 2;", 2, 28);
        fault(TWO + "person;person;person;person;person;person;person at 9", 4, 58);
        fault(TWO + "person;person;person;person;person;person;#", 1, 58);
        fault(TWO + "owes 0 to 1 of 1;", 3, 21);
        fault(TWO + "person;owes 0 to 1 of 1;person;", 3, 33);
        fault(TWO + "person;person;owes 1 to 1 of 5;", 3, 40);
        fault(TWO + "person;person;owes 1 to x of 5;", 2, 40);
        fault(TWO + "person;person;owes 1 to 1000 of 5;", 1, 40);
        fault(TWO + "person;person;owes 1 to 0 of 0;", 3, 45);
        fault(TWO + "person;person;owes 1 to 0 of 100;", 3, 45);
        fault(TWO + "snowy 11;", 3, 22);
        fault(TWO + "snowy;", 2, 21);
        fault(TWO + "day 1000;", 1, 20);
        fault(TWO + "weighs 1;", 2, 23);
        fault(TWO + "weighs:;", 2, 23);
        fault(TWO + "weighs:1+;", 2, 25);
        fault(TWO + "weighs:1 2;", 2, 25);
        fault(TWO + "weighs:-1;", 2, 23);
        fault(TWO + "weighs:(1;", 2, 25);
        fault(TWO + "weighs:1);", 2, 24);
        fault(TWO + "weighs:[1];", 2, 23);
        fault(TWO + "weighs:not 1;", 2, 23);
        fault(TWO + "weighs:1=1;", 2, 24);
        fault(TWO + "weighs:plank;", 2, 23);
        fault(TWO + "weighs:weight;", 2, 23);
        fault(TWO + "weighs:others;", 2, 23);
        fault(TWO + "weighs:whoever;", 2, 23);
        fault(TWO + "lets:debt=1;", 2, 21);
        fault(TWO + "lets:papers=1;", 2, 21);
        fault(TWO + "lets:1=owed;", 2, 23);
        fault(TWO + "lets:1;", 2, 22);
        fault(TWO + "lets:1=1=1;", 2, 24);
        fault(TWO + "lets:(1=1);", 2, 23);
        fault(TWO + "lets:[1=1;", 2, 25);
        fault(TWO + "lets:1=1 or;", 2, 27);
        fault(TWO + "lets:1=1 not 1=1;", 2, 25);
        fault(TWO + "lets:1=not 1=1;", 2, 23);
        fault(TWO + "lets:[[[[[[[1=1", 4, 27);
        fault(TWO + "lets:not[not[not((1=1", 4, 33);
        fault(TWO + "lets:not not not not not not not 1=1;", 4, 45);
        fault(TWO + "weighs:(((((((1", 4, 29);
        fault(TWO + "weighs:((((((1(", 2, 30);
        fault(TWO + "weighs:((((((#", 1, 29);
    }

    private static void good() {
        B.due("as long as they go on", Bench.tell(new DebtBridge(), "planks2bear005;person at\n3;snowy 10;day 999;"), 4);
        B.due("six within", Bench.tell(new DebtBridge(), TWO + "weighs:((((((1))))))*((((((2))))));"), 2);
        B.due("six nots", Bench.tell(new DebtBridge(),
            TWO + "lets:not not not not not not 1=1 and not[not[not(1)<(2)or 1=1]];"), 2);
        DebtBridge x = Bench.told(TWO);
        B.due("a good one behind a fault", Bench.tell(x, "planks") == -32 ? Bench.tell(x, TWO) : 0, 1);
        B.due("fault(0)", x.fault(0), 0);
        B.due("fault(1)", x.fault(1), -1);
        x.bridge(0);
        B.due("fault(0)", x.fault(0), 2);
        B.due("not read", x.bridge(1), -3);
        B.due("fault(0) of the latest read", x.fault(0), 2);
        String most = "planks 8 bear 999;person;person;person;person;person;person;plank 7 bears 0;";
        B.due("six people, eight planks", Bench.tell(x, most), 8);
        StringBuilder long900 = new StringBuilder("planks 1 bear 1;weighs:1");
        while (long900.length() < 899) {
            long900.append(long900.length() % 2 == 0 ? "+" : "1");
        }
        long900.setLength(899);
        if (long900.charAt(898) == '+') {
            long900.setCharAt(898, '1');
            long900.setCharAt(897, ' ');
        }
        long900.append(";");
        B.due("900 bytes", Bench.tell(x, long900.toString()), 2);
    }

    private static int weight(String law) {
        return Bench.told("planks 1 bear 0;day 9;person;person;person;owes 1 to 0 of 7;owes 1 to 2 of 5;owes 2 to 1 of 4;"
            + "weighs:" + law + ";").person(1, 4);
    }

    private static void laws() {
        B.due("without a law", Bench.told("planks 1 bear 0;person;person;owes 0 to 1 of 9;").person(0, 4), 9);
        B.due("* ahead of + -", weight("2+3*4-1"), 13);
        B.due("( )", weight("(2+3)*4"), 20);
        B.due("from the left", weight("10-3-2"), 5);
        B.due("- ( )", weight("10-(3-2)"), 9);
        B.due("below 0", weight("0-5"), 0);
        B.due("above 9999", weight("999*11"), 9999);
        B.due("9999", weight("11*909"), 9999);
        B.due("9998", weight("11*909-1"), 9998);
        B.due("* is kept", weight("999*999*2-999*999-1"), 1998);
        B.due("+ is kept", weight("999*999+999*999-999*999-999"), 1000);
        B.due("- is kept", weight("0-999*999-999*999+999*999+999+999+999"), 998);
        B.due("* below is kept", weight("(0-999*999)*2+999*999+999+999+999"), 998);
        B.due("who", weight("who"), 1);
        B.due("day", weight("day"), 2);
        B.due("snow", weight("snow+3"), 3);
        B.due("debt", weight("debt"), 12);
        B.due("papers", weight("papers"), 2);
        B.due("owed", weight("owed"), 4);
        B.due("leading zeros", weight("007"), 7);
    }

    private static void truth(String law, boolean holds) {
        DebtBridge x = Bench.told("planks 2 bear 99;day 9;person;person;owes 1 to 0 of 7;lets:" + law + ";");
        B.due("lets:" + law, x.alone(1), holds ? -1 : 0);
    }

    private static void truths() {
        truth("1=1", true);
        truth("1=2", false);
        truth("1<2", true);
        truth("2<2", false);
        truth("2>1", true);
        truth("2>2", false);
        truth("not 1=1", false);
        truth("not not 1=1", true);
        truth("1=1 or 1=2 and 1=2", true);
        truth("[1=1 or 1=2] and 1=2", false);
        truth("not 1=1 or 1=1", true);
        truth("not[1=1 or 1=1]", false);
        truth("1=2 and 1=1 or 1=1 and 2=2", true);
        truth("who=1", true);
        truth("day=2", true);
        truth("snow=0", true);
        truth("weight=7", true);
        truth("others=0", true);
        truth("plank<2", true);
        truth("plank=1", false);
        truth("0-1<0", true);
        B.due("plank 1 isn't let", Bench.told("planks 2 bear 9;person;lets:plank=0;").alone(0), 1);
    }

    private static void person() {
        DebtBridge x = Bench.told("planks 2 bear 9;person at 3;person at 1;person;owes 1 to 0 of 20;owes 1 to 2 of 3;"
            + "owes 2 to 0 of 4;");
        B.due("place", x.person(0, 0), 3);
        B.due("fallen", x.person(1, 0), -1);
        B.due("west", x.person(2, 0), 0);
        B.due("debt of the fallen stays", x.person(1, 1), 23);
        B.due("papers", x.person(1, 2), 2);
        B.due("owed", x.person(0, 3), 24);
        B.due("weighs", x.person(1, 4), 23);
        B.due("no such", x.person(3, 0), -2);
        B.due("no such", x.person(-1, 0), -2);
        B.due("what 5", x.person(0, 5), -2);
        B.due("what -1", x.person(0, -1), -2);
    }

    private static void owes() {
        DebtBridge x = Bench.told("planks 2 bear 9;person;person;person;owes 1 to 0 of 20;");
        B.due("owes", x.owes(1, 0), 20);
        B.due("the other way", x.owes(0, 1), 0);
        B.due("itself", x.owes(1, 1), 0);
        B.due("no such", x.owes(3, 0), -2);
        B.due("no such", x.owes(0, 3), -2);
        B.due("no such", x.owes(-1, -1), -2);
    }

    private static void plank() {
        DebtBridge x = Bench.told("planks 4 bear 50;plank 3 bears 7;person at 1;person at 2;person at 3;person at 2;"
            + "person;person at 5;weighs:(who+1)*3;");
        // on them: 3; 6 and 12; 9; nobody
        B.due("load 0", x.plank(0, 1), 12);
        B.due("load 1", x.plank(1, 1), 24);
        B.due("load 2", x.plank(2, 1), 18);
        B.due("load 3", x.plank(3, 1), 4);
        B.due("the banks aside", x.plank(3, 0), 7);
        B.due("bears", x.plank(0, 0), 50);
        x.mend(0);
        B.due("bears, mended", x.plank(0, 0), 60);
        B.due("mended", x.plank(0, 3), 1);
        B.due("broken", x.plank(0, 2), 0);
        B.due("no such", x.plank(4, 0), -2);
        B.due("no such", x.plank(-1, 0), -2);
        B.due("what 4", x.plank(0, 4), -2);
        B.due("what -1", x.plank(0, -1), -2);
        x = Bench.told("planks 3 bear 9;plank 1 bears 0;person at 1;person at 3;weighs:3;");
        B.due("half of both together, cut", x.plank(1, 1), 3);
        DebtBridge y = Bench.told("planks 3 bear 9;person at 1;person;owes 0 to 1 of 5;");
        y.tear(0, 1);
        y.undo(1);
        B.due("load, undone", y.plank(0, 1), 5);
        B.due("broken", x.plank(1, 2), 1);
        B.due("the others hold", x.count(7), 2);
    }
}
