import java.util.function.ToLongFunction;

/** The codes of refused calls: each of them, on an object of which much can be seen, changes nothing. */
final class RefusedEdges {
    private static final int TERMS = Edge.TERMS;

    private final Edge e;

    private RefusedEdges(Edge e) {
        this.e = e;
    }

    static void run(Edge e) {
        RefusedEdges t = new RefusedEdges(e);
        t.noSuch();
        t.badNumber();
        t.tooMany();
        t.missing();
        t.whyNot();
        t.text();
        t.first();
    }

    /** Plank 2 is broken, 3 fallen, 0 and 1 owe each other; a full tape; tray 2 missing; image 1 not made. */
    private static DebtBridge busy() {
        DebtBridge x = Bench.told("planks 3 bear 19;plank 2 bears 4;person;person;person at 4;person at 3;person at 1;owes 0 to 1 of 9;"
            + "owes 1 to 0 of 7;owes 2 to 0 of 3;weighs:debt+snow+(who-2)*who*2;lets:who<4;snowy 6;day 40;");
        x.seed(12);
        x.days(3);
        x.mend(0);
        x.image(0);
        Bench.fill(x, 0, 0, 0, 0, 0, 0, 0, 0);
        Bench.fill(x, 1, 1, 0, 1);
        Bench.fill(x, 3, 2, 3);
        for (int i = 0; i < 45; i++) {
            x.feed(i, i, i, i, i);
        }
        return x;
    }

    private void refused(String call, int code, ToLongFunction<DebtBridge> asked) {
        DebtBridge x = busy();
        e.due(call, asked.applyAsLong(x), code);
        e.holds("nothing changes by " + call, Sight.ofAll(x).equals(Sight.ofAll(busy())));
    }

    private void noSuch() {
        e.says(TERMS, "Refused calls answer by a code and change nothing: -2 there is none such;");
        refused("person(5, 0)", -2, x -> x.person(5, 0));
        refused("person(0, 5)", -2, x -> x.person(0, 5));
        refused("owes(0, 5)", -2, x -> x.owes(0, 5));
        refused("plank(3, 0)", -2, x -> x.plank(3, 0));
        refused("plank(0, 4)", -2, x -> x.plank(0, 4));
        refused("cancel(4)", -2, x -> x.cancel(4));
        refused("judge(4, 0)", -2, x -> x.judge(4, 0));
        refused("judge(0, 4)", -2, x -> x.judge(0, 4));
        refused("perform(4)", -2, x -> x.perform(4));
        refused("alone(5)", -2, x -> x.alone(5));
        refused("tears(5, 0)", -2, x -> x.tears(5, 0));
        refused("row(4)", -2, x -> x.row(4));
        refused("apart(1, 1)", -2, x -> x.apart(1, 1));
        refused("net(5)", -99000002, x -> x.net(5));
        refused("ring(2)", -2, x -> x.ring(2));
        refused("mends(5)", -2, x -> x.mends(5));
        refused("mendsAt(0, 3)", -2, x -> x.mendsAt(0, 3));
        refused("torn(4)", -2, x -> x.torn(4));
        refused("tornAt(4, 0)", -2, x -> x.tornAt(4, 0));
        refused("weighed(4)", -2, x -> x.weighed(4));
        refused("chance(5, 1, 0)", -2, x -> x.chance(5, 1, 0));
        refused("likely(5, 1)", -2, x -> x.likely(5, 1));
        refused("numbers(4, 0, 1)", -2, x -> x.numbers(4, 0, 1));
        refused("numbers(0, 4, 1)", -2, x -> x.numbers(0, 4, 1));
        refused("write(4, 0, 1)", -2, x -> x.write(4, 0, 1));
        refused("lists(4)", -2, x -> x.lists(4));
        refused("image(2)", -2, x -> x.image(2));
        refused("restore(2)", -2, x -> x.restore(2));
    }

    private void badNumber() {
        e.says(TERMS, "-3 a number can't be;");
        refused("bridge(901)", -3, x -> x.bridge(901));
        refused("bridge(-1)", -3, x -> x.bridge(-1));
        refused("days(100)", -3, x -> x.days(100));
        refused("days(0)", -3, x -> x.days(0));
        refused("undo(4)", -3, x -> x.undo(4));
        refused("undo(0)", -3, x -> x.undo(0));
        refused("season(5, 41)", -3, x -> x.season(5, 41));
        refused("season(5, 0)", -3, x -> x.season(5, 0));
        refused("row(1)", -3, x -> x.row(1));
        refused("order(0, 0)", -3, x -> x.order(0, 0));
        refused("orders(32)", -3, x -> x.orders(32));
        refused("chance(0, 16, 0)", -3, x -> x.chance(0, 16, 0));
        refused("likely(0, 101)", -3, x -> x.likely(0, 101));
        refused("numbers(0, 0, 41)", -3, x -> x.numbers(0, 0, 41));
        refused("numbers(2, 0, -1)", -3, x -> x.numbers(2, 0, -1));
    }

    private void tooMany() {
        e.says(TERMS, "-4 too many; -5 it can't be now;");
        refused("row(0)", -4, x -> x.row(0));
        refused("torn(1)", -4, x -> x.torn(1));
        refused("tornAt(1, 0)", -4, x -> x.tornAt(1, 0));
        refused("weighed(1)", -4, x -> x.weighed(1));
        refused("feed(..)", -5, x -> x.feed(9, 9, 9, 9, 9));
        refused("restore(1)", -5, x -> x.restore(1));
    }

    private void missing() {
        e.says(TERMS, "-6 a TRAY is MISSING; -7 it has no such number;");
        refused("cancel(2)", -6, x -> x.cancel(2));
        refused("judge(2, 0)", -6, x -> x.judge(2, 0));
        refused("perform(2)", -6, x -> x.perform(2));
        refused("row(2)", -6, x -> x.row(2));
        refused("torn(2)", -6, x -> x.torn(2));
        refused("tornAt(2, 0)", -6, x -> x.tornAt(2, 0));
        refused("weighed(2)", -6, x -> x.weighed(2));
        refused("write(2, 0, 1)", -6, x -> x.write(2, 0, 1));
        refused("lists(2)", -6, x -> x.lists(2));
        refused("write(1, 3, 1)", -7, x -> x.write(1, 3, 1));
        refused("write(1, -1, 1)", -7, x -> x.write(1, -1, 1));
    }

    private void whyNot() {
        e.says(TERMS, "-11 to -14 why not (1 to 4);");
        refused("step(5, true)", -11, x -> x.step(5, true));
        refused("step(3, true)", -12, x -> x.step(3, true));
        refused("step(2, true)", -12, x -> x.step(2, true));
        refused("step(2, false)", -12, x -> x.step(2, false));
        refused("step(4, true)", -13, x -> x.step(4, true));
        refused("step(0, true)", -14, x -> x.step(0, true));
        refused("hand(0, 0)", -11, x -> x.hand(0, 0));
        refused("hand(0, 4)", -12, x -> x.hand(0, 4));
        refused("tear(0, 5)", -11, x -> x.tear(0, 5));
        refused("tear(0, 2)", -12, x -> x.tear(0, 2));
        refused("cancel(1)", -11, x -> x.cancel(1));
        refused("cancel(3)", -12, x -> x.cancel(3));
        refused("mend(3)", -11, x -> x.mend(3));
        refused("perform(0): the first can't be", 0, x -> x.perform(0));
        refused("mend", -12, x -> {
            int last = 0;
            // so often that the next one can't be, and all is undone but what can't be undone
            DebtBridge full = Bench.told("planks 1 bear 1;");
            for (int i = 0; i < 100; i++) {
                last = full.mend(0);
            }
            return last;
        });
        DebtBridge x = Bench.told("planks 1 bear 1;person;person;lets:1=2;");
        e.due("hand in hand, the law", x.hand(0, 1), -13);
        e.due("nothing changes", x.count(10) + x.count(4), 0);
    }

    private void text() {
        e.says(TERMS, "-30 less the FAULT: a text.");
        DebtBridge x = busy();
        e.due("zeros are no tokens", x.bridge(20), -31);
        e.due("what a new one says", Bench.tell(x, "planks 9"), -33);
        e.holds("all but the tape and the fault stays", Sight.ofState(x).equals(Sight.ofState(busy())));
    }

    private void first() {
        e.says(TERMS, "(Of several that which the call tells first; all these ahead of NONE.)");
        DebtBridge x = Bench.told("planks 2 bear 9;person;person;weighs:10;lets:1=2;");
        e.due("cancel: -2 ahead of -6", x.cancel(4), -2);
        e.due("judge: what ahead of -6", x.judge(0, 4), -2);
        e.due("write: -6 ahead of -7", x.write(0, -1, 0), -6);
        e.due("numbers: the sort ahead of n", x.numbers(0, 4, 41), -2);
        e.due("chance: what ahead of n", x.chance(0, 16, 2), -2);
        e.due("likely: the person ahead of m", x.likely(2, 101), -2);
        x.numbers(0, 0, 7);
        e.due("row: -4 ahead of -3", x.row(0), -4);
        e.due("cancel: -11 ahead of -12", x.cancel(0), -11);
        e.due("tornAt: -4 ahead of -3", x.tornAt(0, -1), -4);
        x.numbers(0, 0, 2);
        e.due("row: -3 ahead of what it would answer", x.row(0), -3);
        e.due("tears: what ahead of NONE", x.tears(0, 2), -2);
        e.due("order: i ahead of NONE", x.order(3, -1), -3);
        e.due("ring: what ahead of NONE", x.ring(2), -2);
        e.due("mendsAt: the plank ahead of NONE", x.mendsAt(0, 2), -2);
        e.due("apart: both one ahead of NONE", x.apart(0, 0), -2);
        e.due("tornAt: k ahead of NONE", x.tornAt(0, -1), -3);
        e.due("likely: m ahead of NONE", x.likely(0, 101), -3);
    }
}
