/** The terms that tell of texts, and promises 1 to 4. */
final class TextEdges {
    private static final int TERMS = Edge.TERMS;
    private static final String ONE = "planks 1 bear 1;";
    private static final String TWO = "planks 2 bear 5;";
    private static final String SIX = "person;person;person;person;person;person;";
    private static final int LOW = Integer.MIN_VALUE;
    private static final int HIGH = Integer.MAX_VALUE;

    private final Edge e;

    private TextEdges(Edge e) {
        this.e = e;
    }

    static void run(Edge e) {
        TextEdges t = new TextEdges(e);
        t.newObject();
        t.feed();
        t.bridge();
        t.bridgeRefused();
        t.fault();
        t.length();
        t.grammar();
        t.truths();
        t.nested();
        t.planks();
        t.person();
        t.owes();
        t.snowy();
        t.day();
        t.struck();
        t.tokens();
        t.faultsOfTokens();
        t.faultsOfPlace();
        t.faultsOfBounds();
    }

    private void good(String text, int lines) {
        DebtBridge x = new DebtBridge();
        e.due(text, Bench.tell(x, text), lines);
        e.due("no fault: " + text, x.fault(0), 0);
        e.due("no place: " + text, x.fault(1), -1);
    }

    private void bad(String text, int kind, int place) {
        DebtBridge x = new DebtBridge();
        e.due(text, Bench.tell(x, text), -30 - kind);
        e.due("kind: " + text, x.fault(0), kind);
        e.due("place: " + text, x.fault(1), place);
    }

    private static String padded(String text, int length, String end) {
        StringBuilder all = new StringBuilder(text);
        while (all.length() < length - end.length()) {
            all.append(all.length() % 2 == 0 ? ' ' : '\n');
        }
        return all.append(end).toString();
    }

    // ---- promises 1 to 4

    private void newObject() {
        e.says(1, "1 PLANK that bears 0, no PEOPLE.");
        DebtBridge x = new DebtBridge();
        e.due("PLANKS", x.count(0), 1);
        e.due("bears", x.plank(0, 0), 0);
        e.due("not broken", x.plank(0, 2), 0);
        e.due("no plank 1", x.plank(1, 0), -2);
        e.due("PEOPLE", x.count(1), 0);
        e.due("no person 0", x.person(0, 0), -2);
        for (int what = 2; what <= 12; what++) {
            e.due("count(" + what + ")", x.count(what), 0);
        }
        e.says(TERMS, "(without one: 1 PLANK that bears 0, no PEOPLE)");
        x = new DebtBridge();
        x.bridge(0);
        e.due("a text with a fault is none: PLANKS", x.count(0), 1);
        e.due("bears", x.plank(0, 0), 0);
        e.due("PEOPLE", x.count(1), 0);
        e.says(TERMS, "The constants: `NONE = -1`: There is none.");
        e.due("NONE", DebtBridge.NONE, -1);
    }

    private void feed() {
        e.says(2, "Twenty bytes come behind those on THE TAPE, the highest of each int first: how many it has.");
        DebtBridge x = new DebtBridge();
        // "planks 3 bear 245;  " and "day 678;" with bytes behind it that aren't read
        e.due("the first", x.feed(0x706c616e, 0x6b732033, 0x20626561, 0x72203234, 0x353b2020), 20);
        e.due("behind it", x.feed(0x64617920, 0x3637383b, 0x80ff7f00, -1, 0), 40);
        e.due("the tape", x.count(11), 40);
        e.due("two lines", x.bridge(28), 2);
        e.due("bears", x.plank(2, 0), 245);
        e.due("day", x.count(8), 678);
        x = new DebtBridge();
        x.feed(0x80ff7f00, 0, 0, 0, 0);
        e.due("a byte above 127 is no token", x.bridge(1), -31);
        e.says(2, "-5: it would have more than 900.");
        x = new DebtBridge();
        String most = padded(TWO, 900, "day 7;");
        e.due("900 bytes", Bench.feed(x, most), 900);
        e.due("all are there", x.count(11), 900);
        e.due("20 more", x.feed(0, 0, 0, 0, 0), -5);
        e.due("again", x.feed(-1, -1, -1, -1, -1), -5);
        e.due("900 stay", x.count(11), 900);
        e.due("they are as they were", x.bridge(900), 2);
        e.due("to the last one", x.count(8), 7);
        e.due("room again", x.feed(0, 0, 0, 0, 0), 20);
    }

    private void bridge() {
        e.says(3, "The first n bytes of THE TAPE (which is empty then) are THE BRIDGE");
        DebtBridge x = new DebtBridge();
        Bench.feed(x, TWO + "day 9;");
        e.due("the first 16", x.bridge(16), 1);
        e.due("no day told", x.count(8), 0);
        e.due("the tape is empty", x.count(11), 0);
        e.due("no byte is left", x.bridge(1), -3);
        Bench.feed(x, ONE);
        e.due("all 20", x.bridge(20), 1);
        e.due("none of them: a fault", x.bridge(0), -32);
        Bench.feed(x, ONE);
        e.due("none of 20: a fault", x.bridge(0), -32);
        e.due("the tape is empty with a fault", x.count(11), 0);
        Bench.feed(x, ONE + "day 11;");
        e.due("cut inside a number", x.bridge(21), -32);
        e.due("at its end", x.fault(1), 21);
        e.says(3, "it is looked which PLANKS BREAK");
        x = Bench.told(TWO + "person at 1;weighs:6;");
        e.due("broken", x.count(7), 1);
        e.due("fallen", x.person(0, 0), -1);
        e.due("not under 5", Bench.told(TWO + "person at 1;weighs:5;").count(7), 0);
        e.says(3, "x is 0, nothing can be UNDONE");
        x = Bench.told(TWO + "person;");
        x.step(0, true);
        x.days(2);
        x.seed(77);
        e.due("ahead", x.count(10), 3);
        Bench.tell(x, TWO);
        e.due("nothing", x.count(10), 0);
        e.due("undo", x.undo(1), -3);
        e.due("x", x.seed(3), 0);
        x = Bench.told(TWO + "person at 1;weighs:6;");
        x.mend(1);
        Bench.tell(x, TWO);
        e.due("planks told anew are whole", x.count(7), 0);
        e.due("and were not mended", x.plank(1, 3) * 100 + x.plank(1, 0), 5);
        e.says(3, "how many LINES (planks, too;");
        good(TWO, 1);
        good(TWO + "day 1;", 2);
        StringBuilder many = new StringBuilder(ONE);
        for (int i = 0; i < 147; i++) {
            many.append("day 1;");
        }
        good(many.toString(), 148);
    }

    private static DebtBridge busy() {
        DebtBridge x = Bench.told("planks 3 bear 19;plank 1 bears 7;person;person at 2;person at 4;person at 3;owes 0 to 1 of 9;"
            + "owes 1 to 0 of 7;owes 2 to 0 of 3;weighs:debt+snow;lets:who<3;snowy 6;day 40;");
        x.seed(12);
        x.days(3);
        x.mend(2);
        x.step(2, false);
        x.image(1);
        return x;
    }

    private void bridgeRefused() {
        e.says(3, "all stays with a FAULT).");
        String[] faulty = {"", "#", TWO + "person at 9;", TWO + SIX + "person;", TWO + "person;day 5;lets:1=1;snowy 4;weighs:9;plank 0 bears"};
        for (String text : faulty) {
            DebtBridge x = busy();
            DebtBridge y = busy();
            e.holds("a fault: " + text, Bench.tell(x, text) < -30);
            e.holds("as it was: " + text, Sight.ofState(x).equals(Sight.ofState(y)));
            e.due("what can be undone: " + text, x.count(10), y.count(10));
            e.due("x: " + text, Bench.drawn(x), Bench.drawn(y));
            e.due("it is undone: " + text, x.undo(4), 0);
            y.undo(4);
            e.holds("undone: " + text, Sight.ofState(x).equals(Sight.ofState(y)));
        }
        e.says(3, "-3: n is below 0 or above what there is (THE TAPE stays)");
        DebtBridge x = new DebtBridge();
        e.due("of an empty tape", x.bridge(1), -3);
        Bench.feed(x, TWO);
        for (int n : new int[] {-1, 21, 900, LOW, HIGH}) {
            e.due("n " + n, x.bridge(n), -3);
            e.due("the tape", x.count(11), 20);
        }
        e.due("as it was", x.bridge(20), 1);
        e.due("PLANKS", x.count(0), 2);
        e.says(3, "-30 less the FAULT.");
        e.due("1", Bench.tell(x, "#"), -31);
        e.due("2", Bench.tell(x, "x"), -32);
        e.due("3", Bench.tell(x, "planks 0"), -33);
        e.due("4", Bench.tell(x, TWO + SIX + "person"), -34);
    }

    private void fault() {
        e.says(4, "Of the latest bridge() that was read");
        DebtBridge x = new DebtBridge();
        Bench.tell(x, TWO + "person at 9;");
        e.due("its fault", x.fault(0), 3);
        e.due("its place", x.fault(1), 26);
        Bench.feed(x, TWO);
        x.bridge(-1);
        x.bridge(21);
        e.due("-3 is not read: the fault stays", x.fault(0), 3);
        e.due("its place stays", x.fault(1), 26);
        x.bridge(5);
        e.due("the latest one", x.fault(0), 2);
        e.due("its place", x.fault(1), 0);
        Bench.tell(x, TWO);
        x.bridge(1);
        e.due("-3 behind a good one", x.fault(0), 0);
        e.due("-3 behind a good one", x.fault(1), -1);
        e.says(4, "what 0: its FAULT (0), 1: its place (NONE).");
        x = new DebtBridge();
        e.due("none was read", x.fault(0), 0);
        e.due("none was read", x.fault(1), -1);
        x.bridge(0);
        e.due("a fault", x.fault(0), 2);
        e.due("at 0", x.fault(1), 0);
        Bench.tell(x, TWO);
        e.due("no fault", x.fault(0), 0);
        e.due("no place", x.fault(1), -1);
        e.says(4, "NONE for others.");
        for (int what : new int[] {-1, 2, LOW, HIGH}) {
            e.due("good, what " + what, x.fault(what), -1);
            e.due("new, what " + what, new DebtBridge().fault(what), -1);
        }
        x.bridge(0);
        e.due("with a fault, what 2", x.fault(2), -1);
        e.due("with a fault, what -1", x.fault(-1), -1);
    }

    // ---- texts

    private void length() {
        e.says(TERMS, "THE BRIDGE is a TEXT of at most 900 bytes");
        String most = padded(TWO, 900, "day 678;");
        good(most, 2);
        bad(padded(TWO, 900, "day 678"), 2, 900);
        bad(padded(TWO, 900, "#"), 1, 899);
        DebtBridge x = Bench.told("planks 1 bear 1;person;weighs:1" + "+1".repeat(434) + ";");
        e.due("900 bytes, 434 sums", x.person(0, 4), 435);
    }

    private void grammar() {
        e.says(TERMS, ": planks N bear N ; { LINE ; }");
        good(ONE, 1);
        good(ONE + "day 1;day 2;", 3);
        bad("planks 1 bear 1", 2, 15);
        bad(ONE + "day 1", 2, 21);
        bad(ONE + ";", 2, 16);
        bad(ONE + "day 1;;", 2, 22);
        bad("planks 1 bears 1;", 2, 9);
        bad("planks 1;", 2, 8);
        e.says(TERMS, "LINE: plank N bears N | person { FLAG } | owes N to N of N | weighs : SUM | lets : TRUTH | snowy N | day N.");
        good(ONE + "plank 0 bears 3;person;person;owes 0 to 1 of 4;weighs:5;lets:1=1;snowy 3;day 2;", 9);
        bad(ONE + "plank 0 bear 3;", 2, 24);
        bad(ONE + "plank 0;", 2, 23);
        bad(ONE + "person person;", 2, 23);
        bad(ONE + "person;person;owes 0 to 1;", 2, 41);
        bad(ONE + "person;person;owes 0 of 1 to 2;", 2, 37);
        bad(ONE + "weighs 5;", 2, 23);
        bad(ONE + "weighs:1=1;", 2, 24);
        bad(ONE + "lets 1=1;", 2, 21);
        bad(ONE + "lets:1;", 2, 22);
        bad(ONE + "snowy:3;", 2, 21);
        bad(ONE + "day;", 2, 19);
        bad(ONE + "at 1;", 2, 16);
        bad("planks 1 1;", 2, 9);
        bad(ONE + "plank 0 3;", 2, 24);
        bad(ONE + "person;person;owes 0 1 of 1;", 2, 37);
        bad(ONE + "person;person;owes 0 to 1 1;", 2, 42);
        wordsLetterByLetter();
        e.says(TERMS, "FLAG: at N.");
        good(ONE + "person;", 2);
        good(ONE + "person at 1;", 2);
        good(ONE + "person at 1 at 0 at 2;", 2);
        bad(ONE + "person at;", 2, 25);
        bad(ONE + "person 1;", 2, 23);
    }

    /** Every letter of every word of a text counts. */
    private void wordsLetterByLetter() {
        String text = "planks 2 bear 5;plank 1 bears 6;person at 1;person;owes 0 to 1 of 2;weighs:who+day+snow+debt+papers+owed;"
            + "lets:not plank=weight and others=0 or 1=1;snowy 1;day 1;";
        good(text, 9);
        int start = 0;
        for (int i = 0; i < text.length(); i++) {
            boolean letter = text.charAt(i) >= 'a' && text.charAt(i) <= 'z';
            if (!letter) {
                start = i + 1;
            } else {
                boolean last = text.charAt(i + 1) < 'a';
                int place = start;
                bad(text.substring(0, i) + "j" + text.substring(i + 1), 2, place);
                if (last) {
                    bad(text.substring(0, i + 1) + "j" + text.substring(i + 1), 2, place);
                }
            }
        }
    }

    private int weight(String law) {
        return Bench.told(ONE + "person;weighs:" + law + ";").person(0, 4);
    }

    private void truth(String law, boolean let) {
        e.due(law, Bench.told("planks 1 bear 99;person;lets:" + law + ";").alone(0), let ? -1 : 0);
    }

    private void truths() {
        e.says(TERMS, "TRUTH: BOTH { or BOTH }; BOTH: UNIT { and UNIT };");
        truth("1=1 or 1=2 and 1=2", true);
        truth("1=2 and 1=2 or 1=1", true);
        truth("1=2 or 1=2 or 1=1", true);
        truth("1=1 and 1=1 and 1=2", false);
        truth("1=2 or 1=2", false);
        bad(ONE + "lets:1=1 or;", 2, 27);
        bad(ONE + "lets:or 1=1;", 2, 21);
        bad(ONE + "lets:1=1 and or 1=1;", 2, 29);
        bad(ONE + "lets:;", 2, 21);
        e.says(TERMS, "UNIT: not UNIT, [ TRUTH ], or SUM, one of = < >, SUM.");
        truth("not 1=2 and 1=2", false);
        truth("not[1=2 and 1=2]", true);
        truth("[1=1 or 1=1] and 1=2", false);
        truth("2=2", true);
        truth("2=1", false);
        truth("1<2", true);
        truth("2<2", false);
        truth("3<2", false);
        truth("3>2", true);
        truth("2>2", false);
        truth("1>2", false);
        for (String one : new String[] {"2=2", "1<2", "2>1"}) {
            for (String other : new String[] {"2=2", "1<2", "2>1"}) {
                truth(one + " and " + other, true);
                truth("not " + one + " or not " + other, false);
                truth("not[" + one + " and " + other + "]", false);
                truth("not[" + one + " or not " + other + "]", false);
            }
        }
        bad(ONE + "lets:1=1=1;", 2, 24);
        bad(ONE + "lets:1<=1;", 2, 23);
        bad(ONE + "lets:[1=1;", 2, 25);
        bad(ONE + "lets:[];", 2, 22);
        bad(ONE + "lets:[1];", 2, 23);
        bad(ONE + "lets:(1=1);", 2, 23);
        bad(ONE + "lets:1=not 1=1;", 2, 23);
        e.says(TERMS, "SUM: TERM { + TERM | - TERM }; TERM: ATOM { * ATOM };");
        e.due("2+3*4", weight("2+3*4"), 14);
        e.due("2*3+4", weight("2*3+4"), 10);
        e.due("9-3-2", weight("9-3-2"), 4);
        e.due("9-3+2", weight("9-3+2"), 8);
        e.due("2*3*4", weight("2*3*4"), 24);
        bad(ONE + "weighs:-1;", 2, 23);
        bad(ONE + "weighs:+1;", 2, 23);
        bad(ONE + "weighs:1+;", 2, 25);
        bad(ONE + "weighs:1-*1;", 2, 25);
        bad(ONE + "weighs:1*;", 2, 25);
        bad(ONE + "weighs:;", 2, 23);
        e.says(TERMS, "ATOM: N, ( SUM ), who, day, snow, in weighs debt, papers, owed, in lets plank, weight, others too.");
        good(ONE + "weighs:1+(2)+who+day+snow+debt+papers+owed;", 2);
        good(ONE + "lets:1+(2)+who+day+snow+plank+weight+others=1;", 2);
        for (String word : new String[] {"plank", "weight", "others", "whom", "wh", "days", "not", "at"}) {
            bad(ONE + "weighs:" + word + ";", 2, 23);
        }
        for (String word : new String[] {"debt", "papers", "owed", "ower", "weights", "planks", "and"}) {
            bad(ONE + "lets:" + word + "=1;", 2, 21);
            bad(ONE + "lets:1=" + word + ";", 2, 23);
        }
        bad(ONE + "weighs:();", 2, 24);
        bad(ONE + "weighs:(1;", 2, 25);
        bad(ONE + "weighs:1);", 2, 24);
    }

    private void nested() {
        e.says(TERMS, "At most six of not [ ( within one another.");
        good(ONE + "weighs:((((((1))))));", 2);
        good(ONE + "lets:not not not not not not 1=1;", 2);
        good(ONE + "lets:[[[[[[1=1]]]]]];", 2);
        good(ONE + "lets:not[not[((1))=((1))]];", 2);
        bad(ONE + "weighs:(((((((1)))))));", 4, 29);
        bad(ONE + "lets:not not not not not not not 1=1;", 4, 45);
        bad(ONE + "lets:[[[[[[[1=1]]]]]]];", 4, 27);
        bad(ONE + "lets:not[not[not[(1)=1]]];", 4, 33);
        bad(ONE + "lets:not[not[not[1=(1)]]];", 4, 35);
        bad(ONE + "lets:not[not[not[not 1=1]]];", 4, 33);
        bad(ONE + "lets:not[not[not[[1=1]]]];", 4, 33);
        // beside one another they are not within one another
        good(ONE + "weighs:((((((1))))))+((((((1))))))*((((((1))))));", 2);
        good(ONE + "lets:not not not not not not 1=1 and not[[[[[1=1]]]]] or [[[[[(1)=(1)]]]]];", 2);
    }

    private void planks() {
        e.says(TERMS, "planks: PLANKS, 1 to 8,");
        bad("planks 0 bear 1;", 3, 7);
        good("planks 1 bear 1;", 1);
        DebtBridge x = Bench.told("planks 8 bear 1;");
        e.due("eight", x.count(0), 8);
        e.due("the last one", x.plank(7, 0), 1);
        bad("planks 9 bear 1;", 3, 7);
        bad("planks 999 bear 1;", 3, 7);
        e.says(TERMS, "what each bears, 0 to 999.");
        e.due("0", Bench.told("planks 2 bear 0;").plank(1, 0), 0);
        e.due("999", Bench.told("planks 2 bear 999;").plank(1, 0), 999);
        bad("planks 2 bear 1000;", 1, 14);
        e.says(TERMS, "plank: one, from 0 on, bears so much.");
        x = Bench.told("planks 3 bear 5;plank 0 bears 0;plank 2 bears 999;");
        e.due("the first one", x.plank(0, 0), 0);
        e.due("another one", x.plank(1, 0), 5);
        e.due("the last one", x.plank(2, 0), 999);
        bad("planks 3 bear 5;plank 3 bears 1;", 3, 22);
        bad("planks 1 bear 5;plank 1 bears 1;", 3, 22);
        bad("planks 3 bear 5;plank 2 bears 1000;", 1, 30);
    }

    private void person() {
        e.says(TERMS, "person: at which PLACE, 0 to PLANKS and 1 (0; 0: the west bank, k: PLANK k less 1, PLANKS and 1: the east bank);");
        DebtBridge x = Bench.told(TWO + "person;person at 0;person at 1;person at 2;person at 3;");
        e.due("at first", x.person(0, 0), 0);
        e.due("west", x.person(1, 0), 0);
        e.due("plank 0", x.person(2, 0), 1);
        e.due("plank 1", x.person(3, 0), 2);
        e.due("east", x.person(4, 0), 3);
        e.due("on planks", x.count(4), 12);
        e.due("east, as bits", x.count(3), 16);
        bad(TWO + "person at 4;", 3, 26);
        good("planks 8 bear 0;person at 9;", 2);
        bad("planks 8 bear 0;person at 10;", 3, 26);
        e.says(TERMS, "numbered from 0 on, 6 at most;");
        good(TWO + SIX, 7);
        e.due("six", Bench.told(TWO + SIX).count(1), 6);
        e.due("the last is 5", Bench.told(TWO + "person;person;person;person;person;person at 3;").person(5, 0), 3);
        bad(TWO + SIX + "person;", 4, 58);
        e.says(TERMS, "a later at strikes.");
        e.due("at 3 at 0 at 1", Bench.told(TWO + "person at 3 at 0 at 1;").person(0, 0), 1);
        e.due("at 3 at 0", Bench.told(TWO + "person at 3 at 0;").person(0, 0), 0);
        bad(TWO + "person at 1 at 4;", 3, 31);
        bad(TWO + "person at 4 at 1;", 3, 26);
    }

    private void owes() {
        e.says(TERMS, "owes: who, whom (both told ahead, not one),");
        DebtBridge x = Bench.told(TWO + "person;person;owes 1 to 0 of 7;");
        e.due("1 to 0", x.owes(1, 0), 7);
        e.due("0 to 1", x.owes(0, 1), 0);
        bad(TWO + "owes 0 to 1 of 1;person;person;", 3, 21);
        bad(TWO + "person;owes 0 to 1 of 1;person;", 3, 33);
        bad(TWO + "person;person;owes 2 to 0 of 1;", 3, 35);
        bad(TWO + "person;person;owes 0 to 2 of 1;", 3, 40);
        bad(TWO + "person;person;owes 1 to 1 of 1;", 3, 40);
        bad(TWO + "person;person;owes 0 to 0 of 1;", 3, 40);
        good(TWO + SIX + "owes 5 to 4 of 1;owes 4 to 5 of 1;", 9);
        e.says(TERMS, "how much, 1 to 99 (a later one of the same two strikes).");
        bad(TWO + "person;person;owes 0 to 1 of 0;", 3, 45);
        e.due("1", Bench.told(TWO + "person;person;owes 0 to 1 of 1;").owes(0, 1), 1);
        e.due("99", Bench.told(TWO + "person;person;owes 0 to 1 of 99;").owes(0, 1), 99);
        bad(TWO + "person;person;owes 0 to 1 of 100;", 3, 45);
        x = Bench.told(TWO + "person;person;owes 0 to 1 of 9;owes 1 to 0 of 2;owes 0 to 1 of 4;");
        e.due("the later one", x.owes(0, 1), 4);
        e.due("the other way stays", x.owes(1, 0), 2);
        e.due("two papers", x.count(5), 2);
    }

    private void snowy() {
        e.says(TERMS, "snowy: how likely it snows on a DAY, in 10, 0 to 10 (0).");
        e.due("untold: never", Bench.told(ONE).days(99), 0);
        e.due("0: never", Bench.told(ONE + "snowy 0;").days(99), 0);
        e.due("10: always", Bench.told(ONE + "snowy 10;").days(99), 99);
        int sometimes = Bench.told(ONE + "snowy 9;").days(99);
        e.holds("9: nearly always", sometimes > 50 && sometimes < 99);
        bad(ONE + "snowy 11;", 3, 22);
    }

    private void day() {
        e.says(TERMS, "day: the first one, 0 to 999 (0).");
        e.due("untold", Bench.told(ONE).count(8), 0);
        e.due("0", Bench.told(ONE + "day 0;").count(8), 0);
        e.due("999", Bench.told(ONE + "day 999;").count(8), 999);
        bad(ONE + "day 1000;", 1, 20);
        DebtBridge x = Bench.told(ONE + "day 999;");
        x.days(2);
        e.due("it goes on beyond", x.count(8), 1001);
    }

    private void struck() {
        e.says(TERMS, "Later ones of plank, weighs, lets, snowy, day strike.");
        DebtBridge x = Bench.told(TWO + "plank 1 bears 2;plank 1 bears 8;plank 0 bears 6;person;weighs:9;weighs:3;lets:1=2;lets:1=1;"
            + "snowy 0;snowy 10;day 8;day 5;");
        e.due("plank", x.plank(1, 0), 8);
        e.due("of another plank", x.plank(0, 0), 6);
        e.due("weighs", x.person(0, 4), 3);
        e.due("lets", x.alone(0), -1);
        e.due("day", x.count(8), 5);
        e.due("snowy", x.days(5), 5);
        x = Bench.told(TWO + "person;weighs:3;weighs:9;lets:1=1;lets:1=2;snowy 10;snowy 0;");
        e.due("the other way: weighs", x.person(0, 4), 9);
        e.due("lets", x.step(0, true), -13);
        e.due("snowy", x.days(5), 0);
        e.due("all are lines", x.count(12), 8);
    }

    // ---- tokens and faults

    private void tokens() {
        e.says(TERMS, "TOKENS, as long as they go on,");
        good("planks2bear5;person at 3;", 2);
        bad("planks2bear5;personat 3;", 2, 13);
        bad("pl anks 2 bear 5;", 2, 0);
        bad("planks 2 bear 5 5;", 2, 16);
        bad("planks2bear1234;", 1, 11);
        e.says(TERMS, "between them blanks (10, 32):");
        good("\n planks\n2 \n bear 5\n;\n\n day \n1 ; \n", 2);
        for (int c = 0; c < 33; c++) {
            if (c != 10 && c != 32) {
                bad("planks" + (char) c + "2 bear 5;", 1, 6);
            }
        }
        bad("planks" + (char) 160 + "2 bear 5;", 1, 6);
        e.says(TERMS, "words (small letters), N (1 to 3 digits), the signs ; : + - * ( ) [ ] = < >.");
        String signs = ";:+-*()[]=<>";
        for (int c = 0; c < 256; c++) {
            boolean token = c >= 'a' && c <= 'z' || c >= '0' && c <= '9' || signs.indexOf(c) >= 0;
            if (c == 10 || c == 32) {
                good(ONE + (char) c, 1);
            } else {
                bad(ONE + (char) c, token ? 2 : 1, 16);
            }
        }
        good("planks 2 bear 5;", 1);
        good("planks 02 bear 50;", 1);
        good("planks 002 bear 005;", 1);
        bad("planks 0002 bear 5;", 1, 7);
    }

    private void faultsOfTokens() {
        e.says(TERMS, "FAULTS, the first along the text,");
        bad("planks 9 bear #;", 3, 7);
        bad("planks 2 bear x;#", 2, 14);
        bad(TWO + SIX + "person at 99 #", 4, 58);
        bad(TWO + "#planks 9", 1, 16);
        bad(TWO + "person at 9;person at #;", 3, 26);
        e.says(TERMS, "of one TOKEN the least kind:");
        bad(TWO + "person 9999;", 1, 23);
        bad(TWO + "person 999;", 2, 23);
        bad(TWO + "snowy 9999;", 1, 22);
        bad(TWO + "weighs:((((((1(", 2, 30);
        bad(TWO + "lets:not not not not not(1[", 2, 42);
        bad(TWO + "lets:not not not not not(1 not", 2, 43);
        bad(TWO + SIX + "weighs:person;", 2, 65);
        bad(TWO + SIX + "person;person at #", 4, 58);
        e.says(TERMS, "1 no TOKEN begins so (4 digits and more: at their first).");
        bad("planks 1000 bear 1;", 1, 7);
        bad("planks 00001 bear 1;", 1, 7);
        bad("planks 2 bear 12345678901234567890;", 1, 14);
        bad(TWO + "Person;", 1, 16);
        bad(TWO + "pErson;", 2, 16);
        bad(TWO + "day 1.5;", 1, 21);
        bad(TWO + "day _;", 1, 20);
        good("planks 2 bear 999;", 1);
    }

    private void faultsOfPlace() {
        e.says(TERMS, "2 it can't stand there (the end: the text's length;");
        String text = "planks 2 bear 5 ; plank 1 bears 6 ; person at 1 ; person ; owes 0 to 1 of 2 ; weighs : ( 1 ) + 2 ; "
            + "lets : not [ 1 = 1 or 2 < 3 ] ; snowy 1 ; day 1 ;";
        for (int n = 0; n <= text.length(); n++) {
            boolean whole = n == text.length() || text.charAt(n) == ' ';
            boolean line = text.substring(0, n).trim().endsWith(";");
            if (whole && !line) {
                bad(text.substring(0, n), 2, n);
                bad(text.substring(0, n) + " \n", 2, n + 2);
            }
        }
        e.says(TERMS, "planks must be told first, and once;");
        bad("person;planks 2 bear 5;", 2, 0);
        bad("plank 0 bears 1;" + TWO, 2, 0);
        bad("day 1;", 2, 0);
        bad(";" + TWO, 2, 0);
        bad(TWO + TWO, 2, 16);
        bad(TWO + "person;planks 9 bear #", 2, 23);
        e.says(TERMS, "a word of the other law).");
        bad(ONE + "weighs:1+plank;", 2, 25);
        bad(ONE + "weighs:1+weight;", 2, 25);
        bad(ONE + "weighs:1+others;", 2, 25);
        bad(ONE + "lets:1+debt=1;", 2, 23);
        bad(ONE + "lets:1+papers=1;", 2, 23);
        bad(ONE + "lets:1+owed=1;", 2, 23);
        // a law behind the other one has its own words
        good(ONE + "weighs:debt;lets:plank=0;weighs:owed;lets:others=0;", 5);
        bad(ONE + "lets:plank=0;weighs:plank;", 2, 36);
        bad(ONE + "weighs:debt;lets:debt=0;", 2, 33);
    }

    private void faultsOfBounds() {
        e.says(TERMS, "3 an N out of its bounds (a PERSON that isn't told, one and the same).");
        bad("planks 0 bear 5;", 3, 7);
        bad(TWO + "plank 2 bears 5;", 3, 22);
        bad(TWO + "person at 4;", 3, 26);
        bad(TWO + "person;owes 1 to 0 of 5;", 3, 28);
        bad(TWO + "person;owes 0 to 0 of 5;", 3, 33);
        bad(TWO + "person;owes 0 to 5 of 5;", 3, 33);
        bad(TWO + SIX + "owes 6 to 0 of 5;", 3, 63);
        bad(TWO + SIX + "owes 0 to 6 of 5;", 3, 68);
        bad(TWO + "person;person;owes 0 to 1 of 0;", 3, 45);
        bad(TWO + "snowy 11;", 3, 22);
        // in laws every N has its place
        good(TWO + "weighs:999;lets:0=999;", 3);
        e.says(TERMS, "4 the first TOKEN of a 7th person; a seventh of not [ (.");
        bad(TWO + SIX + "person", 4, 58);
        bad(TWO + SIX + "day 1;   person at 1;", 4, 67);
        bad(TWO + "weighs:(((((((", 4, 29);
        bad(TWO + "lets:[[[[[[not", 4, 27);
        bad(TWO + "lets:[[[[[[(", 4, 27);
        bad(TWO + "lets:not not not not not not[", 4, 44);
        good(TWO + SIX, 7);
    }
}
