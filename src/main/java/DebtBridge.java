import java.util.Arrays;

/** A footbridge over which people go who weigh what they owe. */
public final class DebtBridge {
    public static final int NONE = -1;

    private static final int NO_SUCH = -2;
    private static final int BAD_NUMBER = -3;
    private static final int TOO_MANY = -4;
    private static final int NOT_NOW = -5;
    private static final int MISSING = -6;
    private static final int NO_PLACE = -7;
    private static final int WHY_NOT = -10;
    private static final int BAD_TEXT = -30;
    private static final int NO_NET = -99000002;

    private static final int MOST_PEOPLE = 6;
    private static final int MOST_PLANKS = 8;
    private static final int MOST_PAPERS = MOST_PEOPLE * (MOST_PEOPLE - 1);
    private static final int MOST_BYTES = 900;
    private static final int MOST_NUMBERS = 40;
    private static final int MOST_UNDONE = 10;
    private static final int MOST_MENDED = 99;
    private static final int MOST_DAYS = 99;
    private static final int MOST_CHANCE_DAYS = 15;
    private static final int MOST_BETWEEN = 8;
    private static final int MOST_NESTED = 6;
    private static final int MOST_WEIGHT = 9999;
    private static final int MOST_OWED = 99;
    private static final int LAW_LIMIT = 1000000;
    private static final int TRAYS = 4;
    private static final int IMAGES = 2;

    // What the words of a law stand for: where Reckoner.known holds it.
    private static final int WHO = 0;
    private static final int DAY = 1;
    private static final int SNOW = 2;
    private static final int DEBT = 3;
    private static final int PAPERS = 4;
    private static final int OWED = 5;
    private static final int PLANK = 6;
    private static final int WEIGHT = 7;
    private static final int OTHERS = 8;
    private static final int KNOWN = 9;

    // The code of a law, behind one another: below 1000 a number, then the words, then the signs.
    private static final int FIRST_WORD = 1000;
    private static final int FIRST_SIGN = 2000;
    private static final int NOT = 2000;
    private static final int PLUS = 2001;
    private static final int MINUS = 2002;
    private static final int TIMES = 2003;
    private static final int EQUAL = 2004;
    private static final int BELOW = 2005;
    private static final int ABOVE = 2006;
    private static final int AND = 2007;
    private static final int OR = 2008;

    private final byte[] tape = new byte[MOST_BYTES];
    private final Reader reader = new Reader(tape);
    private final World live = new World();
    private final World trial = new World();
    private final Deeds deeds = new Deeds(live);
    private final Deeds trialDeeds = new Deeds(trial);
    private final Past past = new Past();
    private final Rows rows = new Rows(live);
    private final Ledger ledger = new Ledger(live);
    private final Trials trials = new Trials(live, trial);
    private final Tray[] trays = new Tray[TRAYS];
    private final World[] images = new World[IMAGES];
    private final boolean[] imageMade = new boolean[IMAGES];
    private int tapeSize = 0;

    public DebtBridge() {
        for (int i = 0; i < TRAYS; i++) {
            trays[i] = new Tray();
        }
        for (int i = 0; i < IMAGES; i++) {
            images[i] = new World();
        }
    }

    // ---- the bridge

    public int feed(int a, int b, int c, int d, int e) {
        if (tapeSize + 20 > MOST_BYTES) {
            return NOT_NOW;
        }
        feedInt(a);
        feedInt(b);
        feedInt(c);
        feedInt(d);
        feedInt(e);
        return tapeSize;
    }

    private void feedInt(int four) {
        for (int shift = 24; shift >= 0; shift -= 8) {
            if (tapeSize < tape.length) {
                tape[tapeSize] = (byte) (four >>> shift);
                tapeSize++;
            }
        }
    }

    public int bridge(int n) {
        if (n < 0 || n > tapeSize) {
            return BAD_NUMBER;
        }
        tapeSize = 0;
        Plan told = reader.read(n);
        if (told == null) {
            return BAD_TEXT - reader.fault;
        }
        live.begin(told);
        past.forget();
        return told.lines;
    }

    public int fault(int what) {
        switch (what) {
            case 0:
                return reader.fault;
            case 1:
                return reader.faultPlace;
            default:
                return NONE;
        }
    }

    public int person(int p, int what) {
        if (!live.isPerson(p)) {
            return NO_SUCH;
        }
        switch (what) {
            case 0:
                return live.state.place[p];
            case 1:
                return live.debtOf(p);
            case 2:
                return live.papersOf(p);
            case 3:
                return live.owedTo(p);
            case 4:
                return live.weightOf(p);
            default:
                return NO_SUCH;
        }
    }

    public int owes(int p, int q) {
        if (!live.isPerson(p) || !live.isPerson(q)) {
            return NO_SUCH;
        }
        return live.owing(p, q);
    }

    public int plank(int k, int what) {
        if (!live.isPlank(k)) {
            return NO_SUCH;
        }
        switch (what) {
            case 0:
                return live.bearing(k);
            case 1:
                live.weighAll();
                return live.loadOf(k);
            case 2:
                return live.isBroken(k) ? 1 : 0;
            case 3:
                return live.state.mended[k];
            default:
                return NO_SUCH;
        }
    }

    // ---- deeds

    public int seed(int n) {
        past.mark(live.state);
        int before = live.state.x;
        live.state.x = n;
        past.keep();
        return before;
    }

    public int step(int p, boolean east) {
        past.mark(live.state);
        int why = deeds.stepBy(p, east ? 1 : -1);
        return ended(why) ? live.state.place[p] : WHY_NOT - why;
    }

    public int hand(int p, int q) {
        past.mark(live.state);
        int why = deeds.goTogether(p, q);
        return ended(why) ? live.state.place[p] : WHY_NOT - why;
    }

    public int tear(int p, int q) {
        past.mark(live.state);
        int amount = live.owing(p, q);
        int why = deeds.tearPaper(p, q);
        return ended(why) ? amount : WHY_NOT - why;
    }

    public int cancel(int tray) {
        int code = trayCode(tray);
        if (code != 0) {
            return code;
        }
        past.mark(live.state);
        int why = deeds.cancelRing(trays[tray]);
        return ended(why) ? deeds.cancelled : WHY_NOT - why;
    }

    public int mend(int k) {
        past.mark(live.state);
        int why = deeds.mendPlank(k);
        return ended(why) ? live.bearing(k) : WHY_NOT - why;
    }

    /** Whether a deed was done; if so, what was marked ahead of it can be undone. */
    private boolean ended(int why) {
        if (why == 0) {
            past.keep();
        }
        return why == 0;
    }

    public int days(int n) {
        if (n < 1 || n > MOST_DAYS) {
            return BAD_NUMBER;
        }
        past.mark(live.state);
        int snowed = 0;
        for (int i = 0; i < n; i++) {
            deeds.passDay();
            snowed += live.state.snow;
        }
        past.keep();
        return snowed;
    }

    public int undo(int n) {
        if (n < 1 || n > MOST_UNDONE || n > past.size) {
            return BAD_NUMBER;
        }
        past.bringBack(n, live.state);
        return past.size;
    }

    public int judge(int tray, int what) {
        if (!isTray(tray) || what < 0 || what > 3) {
            return NO_SUCH;
        }
        Tray told = trays[tray];
        if (told.missing) {
            return MISSING;
        }
        trial.take(live);
        int done = trialDeeds.doAll(told);
        switch (what) {
            case 0:
                return done < told.size ? done : NONE;
            case 1:
                return trialDeeds.why;
            case 2:
                return trial.fallenBits();
            default:
                return trial.eastBits();
        }
    }

    public int perform(int tray) {
        int code = trayCode(tray);
        if (code != 0) {
            return code;
        }
        past.mark(live.state);
        int done = deeds.doAll(trays[tray]);
        if (done > 0) {
            past.keep();
        }
        return done;
    }

    public int season(int seed, int times) {
        if (times < 1 || times > MOST_NUMBERS) {
            return BAD_NUMBER;
        }
        past.mark(live.state);
        int before = live.state.x;
        live.state.x = seed;
        int done = 0;
        for (int i = 0; i < times; i++) {
            done += deeds.doDrawn() == 0 ? 1 : 0;
        }
        if (done > 0) {
            past.keep();
        } else {
            live.state.x = before;
        }
        return done;
    }

    // ---- over

    public int alone(int p) {
        return live.isPerson(p) ? live.stopAlone(p) : NO_SUCH;
    }

    public int able() {
        return live.ableBits();
    }

    public int tears(int p, int what) {
        if (!live.isPerson(p) || what < 0 || what > 1) {
            return NO_SUCH;
        }
        int set = trials.fewestTorn(p);
        if (set == NONE) {
            return NONE;
        }
        return what == 0 ? Integer.bitCount(set) : set;
    }

    public int row(int tray) {
        int code = trayCode(tray);
        if (code != 0) {
            return code;
        }
        Tray told = trays[tray];
        if (told.size < 1 || told.size > MOST_PEOPLE) {
            return TOO_MANY;
        }
        if (!told.holdsPeople(live.plan.people)) {
            return BAD_NUMBER;
        }
        return rows.walkTray(told);
    }

    public int order(int set, int i) {
        if (!isSet(set) || i < 0) {
            return BAD_NUMBER;
        }
        int found = rows.search(set);
        return found > 0 && i < Integer.bitCount(set) ? rows.first[i] : NONE;
    }

    public int orders(int set) {
        return isSet(set) ? rows.search(set) : BAD_NUMBER;
    }

    private boolean isSet(int set) {
        int all = (1 << live.plan.people) - 1;
        return set != 0 && (set & ~all) == 0;
    }

    public int apart(int p, int q) {
        if (!live.isPerson(p) || !live.isPerson(q) || p == q) {
            return NO_SUCH;
        }
        for (int between = 0; between <= MOST_BETWEEN; between++) {
            if (rows.walkTwo(p, q, between) == NONE) {
                return between;
            }
        }
        return NONE;
    }

    // ---- debts

    public int net(int p) {
        return live.isPerson(p) ? ledger.netOf(p) : NO_NET;
    }

    public int coin() {
        return ledger.coinOfAll();
    }

    public int settles() {
        return ledger.fewestPapers();
    }

    public int rings() {
        ledger.findRings();
        return ledger.ringsFound;
    }

    public int ring(int what) {
        boolean member = what >= 10 && what < 10 + MOST_PEOPLE;
        if (what != 0 && what != 1 && !member) {
            return NO_SUCH;
        }
        ledger.findRings();
        if (ledger.ringsFound == 0) {
            return NONE;
        }
        if (member) {
            return what - 10 < ledger.bestSize ? ledger.best[what - 10] : NONE;
        }
        return what == 0 ? ledger.bestDebt : ledger.bestSize;
    }

    public int heaviest() {
        live.weighAll();
        int most = NONE;
        for (int p = 0; p < live.plan.people; p++) {
            if (most == NONE || live.weights[p] > live.weights[most]) {
                most = p;
            }
        }
        return most;
    }

    public int forgive() {
        return trials.bestForgiven();
    }

    // ---- mends

    public int mends(int p) {
        if (!live.isPerson(p)) {
            return NO_SUCH;
        }
        return canBeMendedFor(p) ? mendsOver(1 << p) : NONE;
    }

    public int mendsAt(int p, int k) {
        if (!live.isPerson(p) || !live.isPlank(k)) {
            return NO_SUCH;
        }
        return canBeMendedFor(p) ? live.mendsNeeded(p, k) : NONE;
    }

    public int mendsAll() {
        for (int p = 0; p < live.plan.people; p++) {
            if (!canBeMendedFor(p)) {
                return NONE;
            }
        }
        return mendsOver((1 << live.plan.people) - 1);
    }

    private boolean canBeMendedFor(int p) {
        for (int k = 0; k < live.plan.planks; k++) {
            if (live.mendsNeeded(p, k) == NONE) {
                return false;
            }
        }
        return true;
    }

    /** How many mends a set of people takes: a plank mended for one is mended for all. */
    private int mendsOver(int set) {
        int all = 0;
        for (int k = 0; k < live.plan.planks; k++) {
            int most = 0;
            for (int p = 0; p < live.plan.people; p++) {
                if ((set >> p & 1) != 0) {
                    most = Math.max(most, live.mendsNeeded(p, k));
                }
            }
            all += most;
        }
        return all;
    }

    // ---- which paper

    public int torn(int tray) {
        int code = seenCode(tray);
        return code == 0 ? trials.findTorn(trays[tray]) : code;
    }

    public int tornAt(int tray, int k) {
        int code = seenCode(tray);
        if (code != 0) {
            return code;
        }
        if (k < 0) {
            return BAD_NUMBER;
        }
        return k < trials.findTorn(trays[tray]) ? trials.papers[k] : NONE;
    }

    public int weighed(int tray) {
        int code = seenCode(tray);
        if (code != 0) {
            return code;
        }
        return trials.findTorn(trays[tray]) == 0 ? NONE : trials.tellsMost();
    }

    private int seenCode(int tray) {
        int code = trayCode(tray);
        if (code != 0) {
            return code;
        }
        return trays[tray].size == live.plan.people ? 0 : TOO_MANY;
    }

    // ---- chances

    public long chance(int p, int n, int what) {
        if (!live.isPerson(p) || what < 0 || what > 1) {
            return NO_SUCH;
        }
        if (n < 0 || n > MOST_CHANCE_DAYS) {
            return BAD_NUMBER;
        }
        trials.startChance(p);
        for (int day = 1; day <= n; day++) {
            trials.addDay(day);
        }
        long above = trials.ways - trials.fails;
        long part = Trials.commonPart(above, trials.ways);
        return (what == 0 ? above : trials.ways) / Math.max(1L, part);
    }

    public int likely(int p, int m) {
        if (!live.isPerson(p)) {
            return NO_SUCH;
        }
        if (m < 0 || m > 100) {
            return BAD_NUMBER;
        }
        trials.startChance(p);
        for (int day = 0; day <= MOST_CHANCE_DAYS; day++) {
            if (day > 0) {
                trials.addDay(day);
            }
            if ((trials.ways - trials.fails) * 100 >= trials.ways * m) {
                return day;
            }
        }
        return NONE;
    }

    // ---- trays, images

    private boolean isTray(int tray) {
        return tray >= 0 && tray < TRAYS;
    }

    private int trayCode(int tray) {
        if (!isTray(tray)) {
            return NO_SUCH;
        }
        return trays[tray].missing ? MISSING : 0;
    }

    public int numbers(int tray, int sort, int n) {
        if (!isTray(tray) || sort < 0 || sort > 3) {
            return NO_SUCH;
        }
        if (n < 0 || n > MOST_NUMBERS) {
            return BAD_NUMBER;
        }
        trays[tray].make(sort, n);
        return 0;
    }

    public long write(int tray, int i, long v) {
        int code = trayCode(tray);
        if (code != 0) {
            return code;
        }
        if (i < 0 || i >= trays[tray].size) {
            return NO_PLACE;
        }
        return trays[tray].put(i, v);
    }

    public int lists(int tray) {
        int code = trayCode(tray);
        if (code != 0) {
            return code;
        }
        live.weighAll();
        int many = Math.min(live.plan.people, trays[tray].size);
        for (int p = 0; p < many; p++) {
            trays[tray].put(p, live.weights[p]);
        }
        return many;
    }

    public int image(int i) {
        if (i < 0 || i >= IMAGES) {
            return NO_SUCH;
        }
        images[i].take(live);
        imageMade[i] = true;
        return 0;
    }

    public int restore(int i) {
        if (i < 0 || i >= IMAGES) {
            return NO_SUCH;
        }
        if (!imageMade[i]) {
            return NOT_NOW;
        }
        live.take(images[i]);
        past.forget();
        return 0;
    }

    public int count(int what) {
        switch (what) {
            case 0:
                return live.plan.planks;
            case 1:
                return live.plan.people;
            case 2:
                return live.fallenBits();
            case 3:
                return live.eastBits();
            case 4:
                return live.onPlanksBits();
            case 5:
                return live.allPapers();
            case 6:
                return live.allDebt();
            case 7:
                return live.state.broken;
            case 8:
                return live.state.day;
            case 9:
                return live.state.snow;
            case 10:
                return past.size;
            case 11:
                return tapeSize;
            case 12:
                return live.plan.lines;
            default:
                return NONE;
        }
    }

    /** What a text tells of the bridge; once read it never changes, so images share it. */
    private static final class Plan {
        private final int[] bears = new int[MOST_PLANKS];
        private final int[] places = new int[MOST_PEOPLE];
        private final int[] debts = new int[MOST_PEOPLE * MOST_PEOPLE];
        private int[] weighs = new int[0];
        private int[] lets = new int[0];
        private int planks = 1;
        private int people = 0;
        private int snowy = 0;
        private int firstDay = 0;
        private int lines = 0;
    }

    /** Reads a text token by token; the first token that is refused ends the reading. */
    private static final class Reader {
        private static final int END = 0;
        private static final int WORD = 1;
        private static final int NUMBER = 2;
        private static final int SIGN = 3;
        private static final int WRONG = 4;

        private static final int NO_TOKEN = 1;
        private static final int CANT_STAND = 2;
        private static final int OUT_OF_BOUNDS = 3;
        private static final int ONE_TOO_MANY = 4;

        private static final String SIGNS = ";:+-*()[]=<>";

        private final byte[] text;
        private final int[] code = new int[MOST_BYTES];
        private int length = 0;
        private int start = 0;
        private int end = 0;
        private int kind = END;
        private int number = 0;
        private int codeSize = 0;
        private boolean inWeighs = false;
        private Plan plan = new Plan();
        private int fault = 0;
        private int faultPlace = NONE;

        Reader(byte[] text) {
            this.text = text;
        }

        /** The plan of a text's first n bytes, or null with a fault. */
        Plan read(int n) {
            length = Math.max(0, Math.min(n, text.length));
            end = 0;
            fault = 0;
            faultPlace = NONE;
            plan = new Plan();
            advance();
            boolean good = readPlanks();
            for (int i = 0; i < MOST_BYTES && good && kind != END; i++) {
                good = readLine();
            }
            return good ? plan : null;
        }

        private void advance() {
            while (end < length && (text[end] == 10 || text[end] == 32)) {
                end++;
            }
            start = end;
            kind = start < length ? WRONG : END;
            while (end < length && text[end] >= 'a' && text[end] <= 'z') {
                kind = WORD;
                end++;
            }
            if (kind != WRONG) {
                return;
            }
            number = 0;
            while (end < length && text[end] >= '0' && text[end] <= '9') {
                // Kept small: of a number too long only its place matters.
                number = number % 1000 * 10 + text[end] - '0';
                end++;
            }
            if (end > start) {
                kind = end - start > 3 ? WRONG : NUMBER;
            } else if (SIGNS.indexOf((char) (text[start] & 255)) >= 0) {
                kind = SIGN;
                end++;
            }
        }

        /** Always false, so that who refuses can end its reading with it. */
        private boolean refuse(int which) {
            fault = kind == WRONG ? NO_TOKEN : which;
            faultPlace = start;
            return false;
        }

        private boolean isWord(String word) {
            if (kind != WORD || end - start != word.length()) {
                return false;
            }
            for (int i = 0; i < word.length(); i++) {
                if (text[start + i] != word.charAt(i)) {
                    return false;
                }
            }
            return true;
        }

        private boolean isSign(char sign) {
            return kind == SIGN && text[start] == sign;
        }

        private boolean takeWord(String word) {
            if (!isWord(word)) {
                return refuse(CANT_STAND);
            }
            advance();
            return true;
        }

        private boolean takeSign(char sign) {
            if (!isSign(sign)) {
                return refuse(CANT_STAND);
            }
            advance();
            return true;
        }

        /** The number that stands here, or NONE if it is refused. */
        private int takeNumber(int least, int most) {
            if (kind != NUMBER) {
                refuse(CANT_STAND);
                return NONE;
            }
            if (number < least || number > most) {
                refuse(OUT_OF_BOUNDS);
                return NONE;
            }
            int taken = number;
            advance();
            return taken;
        }

        private boolean endLine() {
            if (!takeSign(';')) {
                return false;
            }
            plan.lines++;
            return true;
        }

        private boolean readPlanks() {
            if (!takeWord("planks")) {
                return false;
            }
            int planks = takeNumber(1, MOST_PLANKS);
            if (planks == NONE || !takeWord("bear")) {
                return false;
            }
            int bears = takeNumber(0, 999);
            if (bears == NONE) {
                return false;
            }
            plan.planks = planks;
            Arrays.fill(plan.bears, bears);
            return endLine();
        }

        private boolean readLine() {
            if (isWord("plank")) {
                return readPlank();
            }
            if (isWord("person")) {
                return readPerson();
            }
            if (isWord("owes")) {
                return readPaper();
            }
            if (isWord("weighs")) {
                return readWeighs();
            }
            if (isWord("lets")) {
                return readLets();
            }
            if (isWord("snowy")) {
                return readSnowy();
            }
            return isWord("day") ? readDay() : refuse(CANT_STAND);
        }

        private boolean readPlank() {
            advance();
            int k = takeNumber(0, plan.planks - 1);
            if (k == NONE || !takeWord("bears")) {
                return false;
            }
            int bears = takeNumber(0, 999);
            if (bears == NONE) {
                return false;
            }
            plan.bears[k] = bears;
            return endLine();
        }

        private boolean readPerson() {
            if (plan.people >= MOST_PEOPLE) {
                return refuse(ONE_TOO_MANY);
            }
            advance();
            int place = 0;
            for (int i = 0; i < MOST_BYTES && isWord("at"); i++) {
                advance();
                place = takeNumber(0, plan.planks + 1);
                if (place == NONE) {
                    return false;
                }
            }
            plan.places[plan.people] = place;
            plan.people++;
            return endLine();
        }

        private boolean readPaper() {
            advance();
            int who = takeNumber(0, plan.people - 1);
            if (who == NONE || !takeWord("to")) {
                return false;
            }
            if (kind == NUMBER && number == who) {
                return refuse(OUT_OF_BOUNDS);
            }
            int whom = takeNumber(0, plan.people - 1);
            if (whom == NONE || !takeWord("of")) {
                return false;
            }
            int amount = takeNumber(1, MOST_OWED);
            if (amount == NONE) {
                return false;
            }
            plan.debts[who * MOST_PEOPLE + whom] = amount;
            return endLine();
        }

        private boolean readSnowy() {
            advance();
            int snowy = takeNumber(0, 10);
            if (snowy == NONE) {
                return false;
            }
            plan.snowy = snowy;
            return endLine();
        }

        private boolean readDay() {
            advance();
            int day = takeNumber(0, 999);
            if (day == NONE) {
                return false;
            }
            plan.firstDay = day;
            return endLine();
        }

        private boolean readWeighs() {
            advance();
            codeSize = 0;
            inWeighs = true;
            if (!takeSign(':') || !readSum(0)) {
                return false;
            }
            plan.weighs = Arrays.copyOf(code, codeSize);
            return endLine();
        }

        private boolean readLets() {
            advance();
            codeSize = 0;
            inWeighs = false;
            if (!takeSign(':') || !readTruth(0)) {
                return false;
            }
            plan.lets = Arrays.copyOf(code, codeSize);
            return endLine();
        }

        private void emit(int what) {
            if (codeSize < code.length) {
                code[codeSize] = what;
                codeSize++;
            }
        }

        private boolean readTruth(int depth) {
            if (!readBoth(depth)) {
                return false;
            }
            for (int i = 0; i < MOST_BYTES && isWord("or"); i++) {
                advance();
                if (!readBoth(depth)) {
                    return false;
                }
                emit(OR);
            }
            return true;
        }

        private boolean readBoth(int depth) {
            if (!readUnit(depth)) {
                return false;
            }
            for (int i = 0; i < MOST_BYTES && isWord("and"); i++) {
                advance();
                if (!readUnit(depth)) {
                    return false;
                }
                emit(AND);
            }
            return true;
        }

        private boolean readUnit(int depth) {
            boolean negated = isWord("not");
            if (negated || isSign('[')) {
                if (depth >= MOST_NESTED) {
                    return refuse(ONE_TOO_MANY);
                }
                advance();
                if (!negated) {
                    return readTruth(depth + 1) && takeSign(']');
                }
                if (!readUnit(depth + 1)) {
                    return false;
                }
                emit(NOT);
                return true;
            }
            if (!readSum(depth)) {
                return false;
            }
            int compared = comparison();
            if (compared == NONE) {
                return refuse(CANT_STAND);
            }
            advance();
            if (!readSum(depth)) {
                return false;
            }
            emit(compared);
            return true;
        }

        private int comparison() {
            if (isSign('=')) {
                return EQUAL;
            }
            if (isSign('<')) {
                return BELOW;
            }
            return isSign('>') ? ABOVE : NONE;
        }

        private boolean readSum(int depth) {
            if (!readTerm(depth)) {
                return false;
            }
            for (int i = 0; i < MOST_BYTES && (isSign('+') || isSign('-')); i++) {
                int joined = isSign('+') ? PLUS : MINUS;
                advance();
                if (!readTerm(depth)) {
                    return false;
                }
                emit(joined);
            }
            return true;
        }

        private boolean readTerm(int depth) {
            if (!readAtom(depth)) {
                return false;
            }
            for (int i = 0; i < MOST_BYTES && isSign('*'); i++) {
                advance();
                if (!readAtom(depth)) {
                    return false;
                }
                emit(TIMES);
            }
            return true;
        }

        private boolean readAtom(int depth) {
            if (isSign('(')) {
                if (depth >= MOST_NESTED) {
                    return refuse(ONE_TOO_MANY);
                }
                advance();
                return readSum(depth + 1) && takeSign(')');
            }
            int known = kind == WORD ? knownWord() : NONE;
            if (kind != NUMBER && known == NONE) {
                return refuse(CANT_STAND);
            }
            emit(kind == NUMBER ? number : FIRST_WORD + known);
            advance();
            return true;
        }

        private int knownWord() {
            if (isWord("who")) {
                return WHO;
            }
            if (isWord("day")) {
                return DAY;
            }
            if (isWord("snow")) {
                return SNOW;
            }
            if (isWord(inWeighs ? "debt" : "plank")) {
                return inWeighs ? DEBT : PLANK;
            }
            if (isWord(inWeighs ? "papers" : "weight")) {
                return inWeighs ? PAPERS : WEIGHT;
            }
            if (isWord(inWeighs ? "owed" : "others")) {
                return inWeighs ? OWED : OTHERS;
            }
            return NONE;
        }
    }

    /** Reckons the code of a law from what its words stand for. */
    private static final class Reckoner {
        // Seven levels of nesting with five values waiting in each need 36 at most.
        private final int[] stack = new int[64];
        private final int[] known = new int[KNOWN];

        int valueOf(int[] code) {
            int top = 0;
            for (int i = 0; i < code.length; i++) {
                int what = code[i];
                int word = what - FIRST_WORD;
                if (what < FIRST_SIGN) {
                    if (top < stack.length) {
                        stack[top] = word >= 0 && word < known.length ? known[word] : what;
                        top++;
                    }
                } else if (what == NOT) {
                    if (top > 0) {
                        stack[top - 1] = 1 - stack[top - 1];
                    }
                } else if (top > 1) {
                    top--;
                    long value = joined(what, stack[top - 1], stack[top]);
                    stack[top - 1] = (int) Math.max(-LAW_LIMIT, Math.min(LAW_LIMIT, value));
                }
            }
            return stack[0];
        }

        private static long joined(int how, long a, long b) {
            switch (how) {
                case PLUS:
                    return a + b;
                case MINUS:
                    return a - b;
                case TIMES:
                    return a * b;
                case EQUAL:
                    return a == b ? 1 : 0;
                case BELOW:
                    return a < b ? 1 : 0;
                case ABOVE:
                    return a > b ? 1 : 0;
                case AND:
                    return a & b;
                default:
                    return a | b;
            }
        }
    }

    /** All that deeds change and undoing brings back. */
    private static final class State {
        private final int[] place = new int[MOST_PEOPLE];
        private final int[] debt = new int[MOST_PEOPLE * MOST_PEOPLE];
        private final int[] mended = new int[MOST_PLANKS];
        private int broken = 0;
        private int day = 0;
        private int snow = 0;
        private int x = 0;

        void take(State other) {
            System.arraycopy(other.place, 0, place, 0, MOST_PEOPLE);
            System.arraycopy(other.debt, 0, debt, 0, MOST_PEOPLE * MOST_PEOPLE);
            System.arraycopy(other.mended, 0, mended, 0, MOST_PLANKS);
            broken = other.broken;
            day = other.day;
            snow = other.snow;
            x = other.x;
        }

        void begin(Plan plan) {
            System.arraycopy(plan.places, 0, place, 0, MOST_PEOPLE);
            System.arraycopy(plan.debts, 0, debt, 0, MOST_PEOPLE * MOST_PEOPLE);
            Arrays.fill(mended, 0);
            broken = 0;
            day = plan.firstDay;
            snow = 0;
            x = 0;
        }
    }

    /** The states ahead of the latest calls; one slot more than can be undone is for the next. */
    private static final class Past {
        private static final int SLOTS = MOST_UNDONE + 1;

        private final State[] slots = new State[SLOTS];
        private int eldest = 0;
        private int size = 0;

        Past() {
            for (int i = 0; i < SLOTS; i++) {
                slots[i] = new State();
            }
        }

        void forget() {
            size = 0;
        }

        void mark(State state) {
            slots[(eldest + size) % SLOTS].take(state);
        }

        void keep() {
            if (size < MOST_UNDONE) {
                size++;
            } else {
                eldest = (eldest + 1) % SLOTS;
            }
        }

        void bringBack(int calls, State state) {
            if (calls < 1 || calls > size) {
                return;
            }
            size -= calls;
            state.take(slots[(eldest + size) % SLOTS]);
        }
    }

    /** A bridge with its people as it stands at one time. */
    private static final class World {
        private final State state = new State();
        private final Reckoner reckoner = new Reckoner();
        private final int[] weights = new int[MOST_PEOPLE];
        private Plan plan = new Plan();

        void begin(Plan told) {
            plan = told;
            state.begin(told);
            breakPlanks();
        }

        void take(World other) {
            plan = other.plan;
            state.take(other.state);
        }

        boolean isPerson(int p) {
            return p >= 0 && p < plan.people;
        }

        boolean isPlank(int k) {
            return k >= 0 && k < plan.planks;
        }

        boolean isBroken(int k) {
            return (state.broken >> k & 1) != 0;
        }

        /** What one owes another one; nothing, if there is no such paper, or person. */
        int owing(int p, int q) {
            boolean there = p >= 0 && p < MOST_PEOPLE && q >= 0 && q < MOST_PEOPLE;
            return there ? state.debt[p * MOST_PEOPLE + q] : 0;
        }

        void setOwing(int p, int q, int amount) {
            if (p >= 0 && p < MOST_PEOPLE && q >= 0 && q < MOST_PEOPLE) {
                state.debt[p * MOST_PEOPLE + q] = amount;
            }
        }

        int debtOf(int p) {
            int sum = 0;
            for (int q = 0; q < plan.people; q++) {
                sum += owing(p, q);
            }
            return sum;
        }

        int papersOf(int p) {
            int many = 0;
            for (int q = 0; q < plan.people; q++) {
                many += owing(p, q) > 0 ? 1 : 0;
            }
            return many;
        }

        int owedTo(int p) {
            int sum = 0;
            for (int q = 0; q < plan.people; q++) {
                sum += owing(q, p);
            }
            return sum;
        }

        int weightOf(int p) {
            if (plan.weighs.length == 0) {
                return debtOf(p);
            }
            knowToday(p);
            reckoner.known[DEBT] = debtOf(p);
            reckoner.known[PAPERS] = papersOf(p);
            reckoner.known[OWED] = owedTo(p);
            return Math.max(0, Math.min(MOST_WEIGHT, reckoner.valueOf(plan.weighs)));
        }

        private void knowToday(int p) {
            reckoner.known[WHO] = p;
            reckoner.known[DAY] = state.day % 7;
            reckoner.known[SNOW] = state.snow;
        }

        boolean mayCome(int p, int k, int weight, int others) {
            if (plan.lets.length == 0) {
                return true;
            }
            knowToday(p);
            reckoner.known[PLANK] = k;
            reckoner.known[WEIGHT] = weight;
            reckoner.known[OTHERS] = others;
            return reckoner.valueOf(plan.lets) != 0;
        }

        void weighAll() {
            for (int p = 0; p < plan.people; p++) {
                weights[p] = weightOf(p);
            }
        }

        /** The load of a plank by the weights that weighAll() found last. */
        int loadOf(int k) {
            int on = 0;
            int beside = 0;
            for (int p = 0; p < plan.people; p++) {
                int at = state.place[p] - 1;
                if (at == k) {
                    on += weights[p];
                } else if (isPlank(at) && (at == k - 1 || at == k + 1)) {
                    beside += weights[p];
                }
            }
            return on + beside / 2;
        }

        int bearing(int k) {
            return k >= 0 && k < MOST_PLANKS ? plan.bears[k] + 10 * state.mended[k] : 0;
        }

        void breakPlanks() {
            // As weighAll() does; this one is called from so far down that a call more is too deep.
            for (int p = 0; p < plan.people; p++) {
                weights[p] = weightOf(p);
            }
            for (int round = 0; round < MOST_PLANKS; round++) {
                int k = firstToBreak();
                if (k == NONE) {
                    return;
                }
                state.broken |= 1 << k;
                for (int p = 0; p < plan.people; p++) {
                    if (state.place[p] == k + 1) {
                        state.place[p] = NONE;
                    }
                }
            }
        }

        private int firstToBreak() {
            for (int k = 0; k < plan.planks; k++) {
                if (!isBroken(k) && loadOf(k) > bearing(k)) {
                    return k;
                }
            }
            return NONE;
        }

        /**
         * The first plank that keeps one from getting over alone. What would break beside
         * it, under half its weight, breaks under its whole weight too: the next plank.
         */
        int stopAlone(int p) {
            int weight = weightOf(p);
            for (int k = 0; k < plan.planks; k++) {
                if (isBroken(k) || weight > bearing(k) || !mayCome(p, k, weight, 0)) {
                    return k;
                }
            }
            return NONE;
        }

        int ableBits() {
            int bits = 0;
            for (int p = 0; p < plan.people; p++) {
                if (stopAlone(p) == NONE) {
                    bits |= 1 << p;
                }
            }
            return bits;
        }

        /** How often a plank has to be mended for one to come to it; NONE: that isn't enough. */
        int mendsNeeded(int p, int k) {
            int weight = weightOf(p);
            if (!mayCome(p, k, weight, 0)) {
                return NONE;
            }
            int whole = (Math.max(0, weight - bearing(k)) + 9) / 10;
            if (state.mended[k] + whole > MOST_MENDED) {
                return NONE;
            }
            return whole + (isBroken(k) ? 1 : 0);
        }

        int fallenBits() {
            return bitsAt(NONE);
        }

        int eastBits() {
            return bitsAt(plan.planks + 1);
        }

        private int bitsAt(int place) {
            int bits = 0;
            for (int p = 0; p < plan.people; p++) {
                if (state.place[p] == place) {
                    bits |= 1 << p;
                }
            }
            return bits;
        }

        int onPlanksBits() {
            int bits = 0;
            for (int p = 0; p < plan.people; p++) {
                if (isPlank(state.place[p] - 1)) {
                    bits |= 1 << p;
                }
            }
            return bits;
        }

        int allPapers() {
            int many = 0;
            for (int p = 0; p < plan.people; p++) {
                many += papersOf(p);
            }
            return many;
        }

        int allDebt() {
            int sum = 0;
            for (int p = 0; p < plan.people; p++) {
                sum += debtOf(p);
            }
            return sum;
        }
    }

    /** Does deeds in a world; each answers why it can't be, 0 when it is done. */
    private static final class Deeds {
        private final World world;
        private int why = 0;
        private int cancelled = 0;

        Deeds(World world) {
            this.world = world;
        }

        int stepBy(int p, int by) {
            if (!world.isPerson(p)) {
                return 1;
            }
            int to = world.state.place[p] + by;
            if (!canMove(p, to)) {
                return 2;
            }
            if (!isLet(p, to)) {
                return 3;
            }
            if (owesBothWays(p)) {
                return 4;
            }
            world.state.place[p] = to;
            world.breakPlanks();
            return 0;
        }

        int goTogether(int p, int q) {
            if (!world.isPerson(p) || !world.isPerson(q) || p == q) {
                return 1;
            }
            int to = world.state.place[p] + 1;
            if (!canMove(p, to) || world.state.place[p] != world.state.place[q]) {
                return 2;
            }
            if (!isLet(p, to) || !isLet(q, to)) {
                return 3;
            }
            world.state.place[p] = to;
            world.state.place[q] = to;
            world.breakPlanks();
            return 0;
        }

        private boolean canMove(int p, int to) {
            if (world.state.place[p] == NONE || to < 0 || to > world.plan.planks + 1) {
                return false;
            }
            return !world.isPlank(to - 1) || !world.isBroken(to - 1);
        }

        private boolean isLet(int p, int to) {
            if (!world.isPlank(to - 1)) {
                return true;
            }
            int others = Integer.bitCount(world.onPlanksBits() & ~(1 << p));
            return world.mayCome(p, to - 1, world.weightOf(p), others);
        }

        private boolean owesBothWays(int p) {
            for (int q = 0; q < world.plan.people; q++) {
                if (world.state.place[q] != NONE && world.owing(p, q) > 0 && world.owing(q, p) > 0) {
                    return true;
                }
            }
            return false;
        }

        int tearPaper(int p, int q) {
            if (!world.isPerson(p) || !world.isPerson(q) || p == q) {
                return 1;
            }
            if (world.owing(p, q) == 0) {
                return 2;
            }
            world.setOwing(p, q, 0);
            world.breakPlanks();
            return 0;
        }

        int cancelRing(Tray told) {
            if (told.size < 2 || told.size > MOST_PEOPLE || !told.holdsPeople(world.plan.people)) {
                return 1;
            }
            int least = 0;
            for (int i = 0; i < told.size; i++) {
                int owed = world.owing(told.personAt(i), told.personAt(i + 1));
                if (owed == 0) {
                    return 2;
                }
                least = i == 0 ? owed : Math.min(least, owed);
            }
            for (int i = 0; i < told.size; i++) {
                int p = told.personAt(i);
                int q = told.personAt(i + 1);
                world.setOwing(p, q, world.owing(p, q) - least);
            }
            cancelled = least;
            world.breakPlanks();
            return 0;
        }

        int mendPlank(int k) {
            if (!world.isPlank(k)) {
                return 1;
            }
            if (world.isBroken(k)) {
                world.state.broken &= ~(1 << k);
            } else if (world.state.mended[k] < MOST_MENDED) {
                world.state.mended[k]++;
            } else {
                return 2;
            }
            world.breakPlanks();
            return 0;
        }

        private int draw() {
            world.state.x = 1103515245 * world.state.x + 12345;
            return world.state.x >>> 16;
        }

        int passDay() {
            world.state.day++;
            world.state.snow = draw() % 10 < world.plan.snowy ? 1 : 0;
            world.breakPlanks();
            return 0;
        }

        /** Does what a tray tells till one can't be: how many; why it couldn't is kept. */
        int doAll(Tray told) {
            why = 0;
            for (int i = 0; i < told.size; i++) {
                why = doOne(told.values[i]);
                if (why != 0) {
                    return i;
                }
            }
            return told.size;
        }

        private int doOne(long told) {
            if (told == NONE) {
                return passDay();
            }
            if (told < 0 || told > 309) {
                return 1;
            }
            int v = (int) told;
            int tens = v % 100 / 10;
            switch (v / 100) {
                case 0:
                    return v < 20 ? stepBy(v % 10, v < 10 ? 1 : -1) : 1;
                case 1:
                    return goTogether(tens, v % 10);
                case 2:
                    return tearPaper(tens, v % 10);
                default:
                    return mendPlank(v - 300);
            }
        }

        /** Draws what a season does next and does it, if it can be. */
        int doDrawn() {
            int which = draw() % 6;
            if (which == 0) {
                return passDay();
            }
            int p = draw() % 6;
            if (which < 4) {
                return stepBy(p, 1);
            }
            int q = draw() % 6;
            return which == 4 ? goTogether(p, q) : tearPaper(p, q);
        }
    }

    /** Numbers of one sort. */
    private static final class Tray {
        private final long[] values = new long[MOST_NUMBERS];
        private boolean missing = true;
        private int sort = 0;
        private int size = 0;

        void make(int newSort, int newSize) {
            Arrays.fill(values, 0L);
            missing = false;
            sort = newSort;
            size = newSize;
        }

        long put(int i, long v) {
            if (i >= 0 && i < size) {
                values[i] = cut(v);
                return values[i];
            }
            return NO_PLACE;
        }

        private long cut(long v) {
            switch (sort) {
                case 0:
                    return (byte) v;
                case 1:
                    return (short) v;
                case 2:
                    return (int) v;
                default:
                    return v;
            }
        }

        /** Whether all numbers are people, each there once. */
        boolean holdsPeople(int people) {
            int seen = 0;
            for (int i = 0; i < size; i++) {
                if (values[i] < 0 || values[i] >= people || (seen >> (int) values[i] & 1) != 0) {
                    return false;
                }
                seen |= 1 << (int) values[i];
            }
            return true;
        }

        /** The person at a place, the first one again behind the last. */
        int personAt(int i) {
            return (int) (i < size ? values[i] : values[0]);
        }
    }

    /** People who go over in a row. */
    private static final class Rows {
        private final World world;
        private final int[] who = new int[MOST_PEOPLE];
        private final int[] lag = new int[MOST_PEOPLE];
        private final int[] first = new int[MOST_PEOPLE];
        private final int[] standing = new int[MOST_PLANKS];
        private int found = 0;

        Rows(World world) {
            this.world = world;
        }

        int walkTray(Tray told) {
            for (int i = 0; i < told.size && i < MOST_PEOPLE; i++) {
                who[i] = told.personAt(i);
                lag[i] = i;
            }
            return walk(Math.min(told.size, MOST_PEOPLE));
        }

        int walkTwo(int p, int q, int between) {
            who[0] = p;
            lag[0] = 0;
            who[1] = q;
            lag[1] = between + 1;
            return walk(2);
        }

        /** The first plank that keeps them from getting over, each by its lag behind the first. */
        private int walk(int many) {
            world.weighAll();
            int steps = world.plan.planks + (many > 0 ? lag[many - 1] : 0);
            for (int step = 0; step < steps; step++) {
                Arrays.fill(standing, NONE);
                for (int i = 0; i < many; i++) {
                    if (world.isPlank(step - lag[i])) {
                        standing[step - lag[i]] = who[i];
                    }
                }
                int bad = firstBad();
                if (bad != NONE) {
                    return bad;
                }
            }
            return NONE;
        }

        private int firstBad() {
            for (int k = 0; k < world.plan.planks; k++) {
                if (world.isBroken(k)) {
                    if (standing[k] != NONE) {
                        return k;
                    }
                } else {
                    int load = weightAt(k) + (weightAt(k - 1) + weightAt(k + 1)) / 2;
                    if (load > world.bearing(k)) {
                        return k;
                    }
                }
            }
            return NONE;
        }

        private int weightAt(int k) {
            return world.isPlank(k) && standing[k] != NONE ? world.weights[standing[k]] : 0;
        }

        /** In how many rows a set gets over; the first one is kept. */
        int search(int set) {
            found = 0;
            if (world.state.broken == 0) {
                world.weighAll();
                fill(0, set);
            }
            return found;
        }

        private void fill(int depth, int left) {
            if (depth > 0 && left == 0 && isBorne(depth - 1, depth)) {
                if (found == 0) {
                    System.arraycopy(who, 0, first, 0, MOST_PEOPLE);
                }
                found++;
            }
            for (int p = 0; p < world.plan.people && depth < MOST_PEOPLE; p++) {
                if ((left >> p & 1) != 0) {
                    who[depth] = p;
                    if (depth == 0 || isBorne(depth - 1, depth + 1)) {
                        fill(depth + 1, left & ~(1 << p));
                    }
                }
            }
        }

        /**
         * Whether every plank bears the i-th of so many with the two beside it. That is all
         * there is to look at: what bears one with its neighbours bears half of one alone.
         */
        private boolean isBorne(int i, int many) {
            int planks = world.plan.planks;
            int own = world.weights[who[i]];
            int ahead = i > 0 ? world.weights[who[i - 1]] : 0;
            int behind = i + 1 < many ? world.weights[who[i + 1]] : 0;
            for (int k = 0; k < planks; k++) {
                int beside = (k + 1 < planks ? ahead : 0) + (k > 0 ? behind : 0);
                if (own + beside / 2 > world.bearing(k)) {
                    return false;
                }
            }
            return true;
        }
    }

    /** What people owe one another, as a whole. */
    private static final class Ledger {
        private final World world;
        private final int[] path = new int[MOST_PEOPLE];
        private final int[] best = new int[MOST_PEOPLE];
        private final int[] nets = new int[MOST_PEOPLE];
        private final int[] groups = new int[1 << MOST_PEOPLE];
        private int bestSize = 0;
        private int bestDebt = 0;
        private int ringsFound = 0;

        Ledger(World world) {
            this.world = world;
        }

        int netOf(int p) {
            return world.owedTo(p) - world.debtOf(p);
        }

        int coinOfAll() {
            int sum = 0;
            for (int p = 0; p < world.plan.people; p++) {
                sum += Math.max(0, netOf(p));
            }
            return sum;
        }

        /** People who settle among themselves take a paper less than they are: most such groups. */
        int fewestPapers() {
            int many = 0;
            for (int p = 0; p < world.plan.people; p++) {
                int net = netOf(p);
                if (net != 0) {
                    nets[many] = net;
                    many++;
                }
            }
            groups[0] = 0;
            for (int set = 1; set < 1 << many; set++) {
                groups[set] = mostGroups(set, many);
            }
            return many - groups[(1 << many) - 1];
        }

        private int mostGroups(int set, int many) {
            int most = 0;
            int sum = 0;
            for (int i = 0; i < many; i++) {
                if ((set >> i & 1) != 0) {
                    sum += nets[i];
                    most = Math.max(most, groups[set & ~(1 << i)]);
                }
            }
            return sum == 0 ? most + 1 : most;
        }

        void findRings() {
            ringsFound = 0;
            bestSize = 0;
            bestDebt = 0;
            for (int p = 0; p < world.plan.people; p++) {
                path[0] = p;
                follow(1, 1 << p, MOST_OWED);
            }
        }

        /** Goes on from the last of a path, a ring that closes ahead of those it begins. */
        private void follow(int depth, int used, int least) {
            int last = path[depth - 1];
            int back = world.owing(last, path[0]);
            if (back > 0) {
                close(depth, Math.min(least, back));
            }
            for (int q = path[0] + 1; q < world.plan.people && depth < MOST_PEOPLE; q++) {
                int owed = world.owing(last, q);
                if (owed > 0 && (used >> q & 1) == 0) {
                    path[depth] = q;
                    follow(depth + 1, used | 1 << q, Math.min(least, owed));
                }
            }
        }

        private void close(int size, int least) {
            ringsFound++;
            if (least * size > bestDebt) {
                bestDebt = least * size;
                bestSize = size;
                System.arraycopy(path, 0, best, 0, MOST_PEOPLE);
            }
        }
    }

    /** What would be if papers were torn or days went by, asked of a world of its own. */
    private static final class Trials {
        private final World live;
        private final World trial;
        private final int[] papers = new int[MOST_PAPERS];
        private final int[] paperWeights = new int[MOST_PAPERS * MOST_PEOPLE];
        private int found = 0;
        private int person = 0;
        private long ways = 1;
        private long fails = 1;

        Trials(World live, World trial) {
            this.live = live;
            this.trial = trial;
        }

        /** To whom the fewest papers are that one has to have torn, as bits; NONE: none help. */
        int fewestTorn(int p) {
            int fewest = NONE;
            for (int set = 0; set < 1 << live.plan.people; set++) {
                boolean fewer = fewest == NONE || Integer.bitCount(set) < Integer.bitCount(fewest);
                // The fewest have nobody in them whom it owes nothing: without that one they'd be fewer.
                if (fewer && getsOverWithout(p, set)) {
                    fewest = set;
                }
            }
            return fewest;
        }

        private boolean getsOverWithout(int p, int set) {
            trial.take(live);
            for (int q = 0; q < live.plan.people; q++) {
                if ((set >> q & 1) != 0) {
                    trial.setOwing(p, q, 0);
                }
            }
            return trial.stopAlone(p) == NONE;
        }

        /** The first paper by which, torn, most get over alone, if more than now. */
        int bestForgiven() {
            int most = Integer.bitCount(live.ableBits());
            int best = NONE;
            for (int i = 0; i < MOST_PEOPLE * MOST_PEOPLE; i++) {
                int p = i / MOST_PEOPLE;
                int q = i % MOST_PEOPLE;
                if (live.owing(p, q) > 0) {
                    trial.take(live);
                    trial.setOwing(p, q, 0);
                    int able = Integer.bitCount(trial.ableBits());
                    if (able > most) {
                        most = able;
                        best = 10 * p + q;
                    }
                }
            }
            return best;
        }

        /** How many papers can be the torn one by what is seen; they are kept with the weights. */
        int findTorn(Tray seen) {
            found = 0;
            for (int i = 0; i < MOST_PEOPLE * MOST_PEOPLE; i++) {
                int p = i / MOST_PEOPLE;
                int q = i % MOST_PEOPLE;
                if (live.owing(p, q) > 0 && found < MOST_PAPERS) {
                    trial.take(live);
                    trial.setOwing(p, q, 0);
                    trial.weighAll();
                    if (looksLike(seen)) {
                        papers[found] = 10 * p + q;
                        System.arraycopy(trial.weights, 0, paperWeights, found * MOST_PEOPLE, MOST_PEOPLE);
                        found++;
                    }
                }
            }
            return found;
        }

        private boolean looksLike(Tray seen) {
            for (int p = 0; p < trial.plan.people && p < seen.size; p++) {
                if (seen.values[p] != NONE && seen.values[p] != trial.weights[p]) {
                    return false;
                }
            }
            return true;
        }

        /** Of the papers found: the first person whose most frequent weight is least so. */
        int tellsMost() {
            int best = NONE;
            int least = 0;
            for (int p = 0; p < live.plan.people; p++) {
                int alike = mostAlike(p);
                if (best == NONE || alike < least) {
                    best = p;
                    least = alike;
                }
            }
            return best;
        }

        private int mostAlike(int p) {
            int most = 0;
            for (int i = 0; i < found; i++) {
                int alike = 0;
                for (int j = 0; j < found; j++) {
                    if (paperWeights[i * MOST_PEOPLE + p] == paperWeights[j * MOST_PEOPLE + p]) {
                        alike++;
                    }
                }
                most = Math.max(most, alike);
            }
            return most;
        }

        void startChance(int p) {
            trial.take(live);
            person = p;
            ways = 1;
            fails = 1;
        }

        /** Each day has ten ways; the chance is what isn't lost on all days. */
        void addDay(int behind) {
            trial.state.day = live.state.day + behind;
            int lost = 0;
            if (stopsIf(1)) {
                lost += live.plan.snowy;
            }
            if (stopsIf(0)) {
                lost += 10 - live.plan.snowy;
            }
            ways *= 10;
            fails *= lost;
        }

        private boolean stopsIf(int snow) {
            trial.state.snow = snow;
            return trial.stopAlone(person) != NONE;
        }

        private static long commonPart(long a, long b) {
            long x = a;
            long y = b;
            // Euclid's steps on numbers up to ten to the fifteenth are fewer than eighty.
            for (int i = 0; i < 100 && y != 0; i++) {
                long rest = x % y;
                x = y;
                y = rest;
            }
            return x;
        }
    }
}
