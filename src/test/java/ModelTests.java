import java.util.Random;

/** Runs of calls by chance, each answer of the class compared with that of the plain model. */
public final class ModelTests {
    private static final int RUNS = 400;
    private static int wrong = 0;
    private static long asked = 0;

    private final Random random;
    private final Texts texts;
    private final DebtBridge real = new DebtBridge();
    private final Model model = new Model();
    private final StringBuilder told = new StringBuilder();
    private final int run;
    private int left = 512;

    private ModelTests(int run) {
        this.run = run;
        random = new Random(run);
        texts = new Texts(random);
    }

    public static void main(String[] args) {
        int from = args.length > 0 ? Integer.parseInt(args[0]) : 0;
        int runs = args.length > 1 ? Integer.parseInt(args[1]) : RUNS;
        for (int run = from; run < from + runs && wrong < 5; run++) {
            new ModelTests(run).play();
        }
        System.out.println("ModelTests: " + asked + " answers compared, " + wrong + " runs differ");
        if (wrong > 0) {
            System.exit(1);
        }
    }

    private void play() {
        boolean same = true;
        while (left > 0 && same) {
            same = random.nextInt(40) == 0 || left == 512 ? tell() : call();
        }
        if (!same) {
            wrong++;
        }
    }

    private boolean compare(String call, long got, long due) {
        left--;
        if (left < 0) {
            // what calls beyond the 512th answer is free
            return true;
        }
        asked++;
        told.append(call).append(" -> ").append(due).append('\n');
        if (got != due) {
            System.out.println("run " + run + ": " + call + " answered " + got + ", the model " + due + " behind:");
            System.out.println(told);
        }
        return got == due;
    }

    private int upTo(int n) {
        return random.nextInt(n + 1);
    }

    /** At times an int far from all that can be, in place of another. */
    private int orFar(int n) {
        int[] far = {Integer.MIN_VALUE, Integer.MAX_VALUE, -100, 100, 357913941, 715827883, 1 << 30, -(1 << 30), 31, 32, 33};
        return random.nextInt(60) == 0 ? far[upTo(far.length - 1)] : n;
    }

    private int person() {
        return orFar(somePerson());
    }

    private int somePerson() {
        return random.nextInt(25) == 0 ? upTo(9) - 2 : model.s.people > 0 ? upTo(model.s.people - 1) : upTo(1);
    }

    private int plank() {
        return orFar(random.nextInt(25) == 0 ? upTo(10) - 1 : upTo(model.s.planks - 1));
    }

    private int tray() {
        return orFar(random.nextInt(40) == 0 ? upTo(6) - 1 : upTo(3));
    }

    private int set() {
        return orFar(random.nextInt(20) == 0 ? upTo(80) - 2 : 1 + upTo((1 << model.s.people) - 1));
    }

    private boolean tell() {
        String text = texts.text();
        told.append("text ").append(text).append('\n');
        boolean same = true;
        for (int at = 0; at < text.length() && same; at += 20) {
            int[] five = new int[5];
            for (int i = 0; i < 20; i++) {
                char c = at + i < text.length() ? text.charAt(at + i) : ' ';
                five[i / 4] = five[i / 4] << 8 | c;
            }
            same = compare("feed", real.feed(five[0], five[1], five[2], five[3], five[4]), model.feed(five));
        }
        int n = model.tape.length() > text.length() + 20 ? model.tape.length() : text.length();
        n = orFar(random.nextInt(30) == 0 ? upTo(950) - 10 : n);
        return same && compare("bridge(" + n + ")", real.bridge(n), model.bridge(n))
            && compare("fault(0)", real.fault(0), model.fault(0))
            && compare("fault(1)", real.fault(1), model.fault(1));
    }

    private boolean fill(int tray) {
        int kind = upTo(4);
        int sort = random.nextInt(30) == 0 ? upTo(5) - 1 : upTo(3);
        int size = orFar(kind == 0 ? upTo(45) - 2 : kind == 1 ? model.s.people : kind == 2 ? upTo(6) : upTo(12));
        boolean same = compare("numbers(" + tray + ", " + sort + ", " + size + ")",
            real.numbers(tray, sort, size), model.numbers(tray, sort, size));
        if (kind == 1 && random.nextInt(3) > 0) {
            return same && seen(tray);
        }
        for (int i = 0; i < size && i < 14 && same; i++) {
            long v = value(kind, i);
            same = random.nextInt(5) == 0 || compare("write(" + tray + ", " + i + ", " + v + ")",
                real.write(tray, i, v), model.write(tray, i, v));
        }
        return same;
    }

    /** What people weigh when a paper is torn, some of them not seen. */
    private boolean seen(int tray) {
        int p = person();
        int q = person();
        boolean torn = model.owes(p, q) > 0;
        boolean same = !torn || compare("tear(" + p + ", " + q + ")", real.tear(p, q), model.tear(p, q));
        same = same && compare("lists(" + tray + ")", real.lists(tray), model.lists(tray));
        same = same && (!torn || compare("undo(1)", real.undo(1), model.undo(1)));
        for (int i = 0; i < model.s.people && same; i++) {
            same = upTo(2) == 0 || compare("write(" + tray + ", " + i + ", -1)", real.write(tray, i, -1), model.write(tray, i, -1));
        }
        int k = upTo(3);
        return same && compare("torn(" + tray + ")", real.torn(tray), model.torn(tray))
            && compare("tornAt(" + tray + ", " + k + ")", real.tornAt(tray, k), model.tornAt(tray, k))
            && compare("weighed(" + tray + ")", real.weighed(tray), model.weighed(tray));
    }

    private long value(int kind, int i) {
        if (random.nextInt(60) == 0) {
            return random.nextLong();
        }
        if (kind == 1) {
            return upTo(2) > 0 ? -1 : model.s.isPerson(i) ? model.s.weight(i) : upTo(9);
        }
        if (kind == 2) {
            return random.nextInt(3) == 0 ? person() : i;
        }
        switch (upTo(6)) {
            case 0:
                return -1;
            case 1:
                return 10 + person();
            case 2:
                return 100 + 10 * person() + person();
            case 3:
                return 200 + 10 * person() + person();
            case 4:
                return 300 + plank();
            default:
                return person();
        }
    }

    private boolean call() {
        int p = person();
        int q = person();
        int k = plank();
        int t = tray();
        int n = orFar(upTo(12) - 1);
        switch (upTo(64)) {
            case 0: case 1: case 2:
                return fill(t);
            case 3: {
                int what = orFar(upTo(6) - 1);
                return compare("person(" + p + ", " + what + ")", real.person(p, what), model.person(p, what));
            }
            case 4:
                return compare("owes(" + p + ", " + q + ")", real.owes(p, q), model.owes(p, q));
            case 5: {
                int what = orFar(upTo(5) - 1);
                return compare("plank(" + k + ", " + what + ")", real.plank(k, what), model.plank(k, what));
            }
            case 6: {
                int x = random.nextInt();
                return compare("seed(" + x + ")", real.seed(x), model.seed(x));
            }
            case 7: case 8: case 9: case 10: case 11: case 12: case 13: case 14: {
                boolean east = upTo(5) > 0;
                return compare("step(" + p + ", " + east + ")", real.step(p, east), model.step(p, east));
            }
            case 15: case 16:
                return compare("hand(" + p + ", " + q + ")", real.hand(p, q), model.hand(p, q));
            case 17: case 18:
                return compare("tear(" + p + ", " + q + ")", real.tear(p, q), model.tear(p, q));
            case 19: case 20:
                return ringTold(t) && compare("cancel(" + t + ")", real.cancel(t), model.cancel(t));
            case 21: case 22:
                return compare("mend(" + k + ")", real.mend(k), model.mend(k));
            case 23: case 24: {
                int days = orFar(random.nextInt(10) == 0 ? upTo(102) - 1 : 1 + upTo(3));
                return compare("days(" + days + ")", real.days(days), model.days(days));
            }
            case 25: case 26:
                return compare("undo(" + n + ")", real.undo(n), model.undo(n));
            case 27: case 28: {
                int what = orFar(upTo(7) == 0 ? upTo(5) - 1 : upTo(3));
                return compare("judge(" + t + ", " + what + ")", real.judge(t, what), model.judge(t, what));
            }
            case 29:
                return compare("perform(" + t + ")", real.perform(t), model.perform(t));
            case 30: case 31: {
                int seed = random.nextInt();
                int times = orFar(random.nextInt(8) == 0 ? upTo(42) : 1 + upTo(5));
                return compare("season(" + seed + ", " + times + ")", real.season(seed, times), model.season(seed, times));
            }
            default:
                return ask(p, q, k, t, n);
        }
    }

    /** At times puts a ring that there is into a tray. */
    private boolean ringTold(int t) {
        if (t < 0 || t > 3 || model.ring(0) == -1 || upTo(2) == 0) {
            return true;
        }
        int size = model.ring(1);
        int turn = upTo(size - 1);
        boolean same = compare("numbers(" + t + ", 0, " + size + ")", real.numbers(t, 0, size), model.numbers(t, 0, size));
        for (int i = 0; i < size; i++) {
            int v = model.ring(10 + (i + turn) % size);
            same = same && compare("write(" + t + ", " + i + ", " + v + ")", real.write(t, i, v), model.write(t, i, v));
        }
        return same;
    }

    private boolean ask(int p, int q, int k, int t, int n) {
        int what = orFar(upTo(10) == 0 ? upTo(4) - 1 : upTo(1));
        switch (upTo(30)) {
            case 0:
                return compare("alone(" + p + ")", real.alone(p), model.alone(p));
            case 1:
                return compare("able()", real.able(), model.able());
            case 2: case 3:
                return compare("tears(" + p + ", " + what + ")", real.tears(p, what), model.tears(p, what));
            case 4:
                return compare("row(" + t + ")", real.row(t), model.row(t));
            case 5: {
                int set = set();
                int i = orFar(upTo(7) - 1);
                return compare("order(" + set + ", " + i + ")", real.order(set, i), model.order(set, i));
            }
            case 6: {
                int set = set();
                return compare("orders(" + set + ")", real.orders(set), model.orders(set));
            }
            case 7:
                return compare("apart(" + p + ", " + q + ")", real.apart(p, q), model.apart(p, q));
            case 8:
                return compare("net(" + p + ")", real.net(p), model.net(p));
            case 9:
                return compare("coin()", real.coin(), model.coin());
            case 10: case 11:
                return compare("settles()", real.settles(), model.settles());
            case 12:
                return compare("rings()", real.rings(), model.rings());
            case 13: case 14: {
                int which = orFar(upTo(5) == 0 ? upTo(18) - 1 : upTo(1) == 0 ? upTo(1) : 10 + upTo(5));
                return compare("ring(" + which + ")", real.ring(which), model.ring(which));
            }
            case 15:
                return compare("heaviest()", real.heaviest(), model.heaviest());
            case 16:
                return compare("forgive()", real.forgive(), model.forgive());
            case 17:
                return compare("mends(" + p + ")", real.mends(p), model.mends(p));
            case 18:
                return compare("mendsAt(" + p + ", " + k + ")", real.mendsAt(p, k), model.mendsAt(p, k));
            case 19:
                return compare("mendsAll()", real.mendsAll(), model.mendsAll());
            case 20:
                return compare("torn(" + t + ")", real.torn(t), model.torn(t));
            case 21: {
                int i = orFar(upTo(6) - 1);
                return compare("tornAt(" + t + ", " + i + ")", real.tornAt(t, i), model.tornAt(t, i));
            }
            case 22:
                return compare("weighed(" + t + ")", real.weighed(t), model.weighed(t));
            case 23: {
                int days = orFar(upTo(17) - 1);
                return compare("chance(" + p + ", " + days + ", " + what + ")", real.chance(p, days, what),
                    model.chance(p, days, what));
            }
            case 24: {
                int m = orFar(upTo(103) - 1);
                return compare("likely(" + p + ", " + m + ")", real.likely(p, m), model.likely(p, m));
            }
            case 25:
                return compare("lists(" + t + ")", real.lists(t), model.lists(t));
            case 26: {
                int i = orFar(upTo(8) == 0 ? upTo(4) - 1 : upTo(1));
                return compare("image(" + i + ")", real.image(i), model.image(i));
            }
            case 27: {
                int i = orFar(upTo(8) == 0 ? upTo(4) - 1 : upTo(1));
                return upTo(2) > 0 || compare("restore(" + i + ")", real.restore(i), model.restore(i));
            }
            case 28: {
                long v = random.nextLong();
                return compare("write(" + t + ", " + n + ", " + v + ")", real.write(t, n, v), model.write(t, n, v));
            }
            default: {
                int which = orFar(upTo(14) - 1);
                return compare("count(" + which + ")", real.count(which), model.count(which));
            }
        }
    }
}
