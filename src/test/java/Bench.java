/** Counts the answers of one test that are not as due. */
final class Bench {
    private final String name;
    private int asked = 0;
    private int wrong = 0;

    Bench(String name) {
        this.name = name;
    }

    void due(String call, long got, long want) {
        asked++;
        if (got != want) {
            wrong++;
            System.out.println(name + ": " + call + " answered " + got + ", due is " + want);
        }
    }

    void end() {
        System.out.println(name + ": " + asked + " answers, " + wrong + " not as due");
        if (wrong > 0 || asked == 0) {
            System.exit(1);
        }
    }

    /** Puts a text on the tape, blanks behind it; answers its length. */
    static int feed(DebtBridge x, String text) {
        for (int at = 0; at < text.length(); at += 20) {
            int[] five = new int[5];
            for (int i = 0; i < 20; i++) {
                five[i / 4] = five[i / 4] << 8 | (at + i < text.length() ? text.charAt(at + i) : ' ');
            }
            x.feed(five[0], five[1], five[2], five[3], five[4]);
        }
        return text.length();
    }

    static int tell(DebtBridge x, String text) {
        return x.bridge(feed(x, text));
    }

    /** A new object with a bridge; a text with a fault ends the test. */
    static DebtBridge told(String text) {
        DebtBridge x = new DebtBridge();
        int lines = tell(x, text);
        if (lines < 1) {
            throw new IllegalStateException("fault " + lines + " at " + x.fault(1) + ": " + text);
        }
        return x;
    }

    /** The x of an object, which stays (as long as fewer than ten calls can be undone). */
    static int drawn(DebtBridge x) {
        int drawn = x.seed(0);
        x.undo(1);
        return drawn;
    }

    /** A tray of 64 bits with these numbers. */
    static void fill(DebtBridge x, int tray, long... numbers) {
        x.numbers(tray, 3, numbers.length);
        for (int i = 0; i < numbers.length; i++) {
            x.write(tray, i, numbers[i]);
        }
    }
}
