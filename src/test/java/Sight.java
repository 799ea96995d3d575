/** All that can be seen of an object, as a text, so that two of them can be compared. */
final class Sight {
    private Sight() {
    }

    /** What undoing brings back, but for x. */
    static String ofState(DebtBridge x) {
        StringBuilder seen = new StringBuilder();
        for (int what = 0; what <= 9; what++) {
            seen.append(x.count(what)).append(' ');
        }
        seen.append(x.count(12)).append(" people ");
        for (int p = 0; p < x.count(1); p++) {
            seen.append(x.person(p, 0)).append(' ').append(x.person(p, 4)).append(' ');
            for (int q = 0; q < x.count(1); q++) {
                seen.append(x.owes(p, q)).append(' ');
            }
        }
        seen.append("planks ");
        for (int k = 0; k < x.count(0); k++) {
            seen.append(x.plank(k, 0)).append(' ').append(x.plank(k, 3)).append(' ');
        }
        return seen.append("able ").append(x.able()).append('\n').toString();
    }

    /** The whole of it; the object is used up by that: it is undone and restored. */
    static String ofAll(DebtBridge x) {
        StringBuilder seen = new StringBuilder(ofState(x));
        seen.append("fault ").append(x.fault(0)).append(' ').append(x.fault(1));
        seen.append(" tape ").append(x.count(11)).append(" undoable ").append(x.count(10)).append('\n');
        seen.append(ofTrays(x));
        if (x.count(10) < 10) {
            seen.append("x ").append(Bench.drawn(x)).append('\n');
        }
        while (x.count(10) > 0) {
            x.undo(1);
            seen.append(x.seed(0)).append(' ').append(x.undo(1)).append(' ');
            seen.append(x.count(4)).append(' ').append(x.count(6)).append(' ').append(x.count(8)).append(' ');
        }
        for (int i = 0; i < 2; i++) {
            seen.append("image ").append(x.restore(i)).append(' ').append(x.count(1)).append(' ').append(x.count(6)).append(' ');
            seen.append(x.count(8)).append(' ').append(x.count(4)).append('\n');
        }
        return seen.toString();
    }

    /** No call reads a number of a tray; what some answer depends on all of them. */
    private static String ofTrays(DebtBridge x) {
        StringBuilder seen = new StringBuilder();
        for (int tray = 0; tray < 4; tray++) {
            for (int what = 0; what < 4; what++) {
                seen.append(x.judge(tray, what)).append(' ');
            }
            seen.append(x.row(tray)).append(' ').append(x.torn(tray)).append(' ');
            seen.append(x.write(tray, 39, 300)).append(' ').append(x.write(tray, 0, 70000)).append('\n');
        }
        return seen.toString();
    }
}
