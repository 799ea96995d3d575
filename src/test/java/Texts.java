import java.util.Random;

/** Texts of bridges by chance, most of them without a fault. */
final class Texts {
    private final Random random;
    private boolean weighs;

    Texts(Random random) {
        this.random = random;
    }

    private int upTo(int n) {
        return random.nextInt(n + 1);
    }

    private boolean now(int inHundred) {
        return random.nextInt(100) < inHundred;
    }

    String text() {
        StringBuilder text = new StringBuilder();
        int planks = now(5) ? upTo(9) : 1 + upTo(7);
        int most = now(30) ? 20 : now(50) ? 60 : 400;
        int least = now(40) ? most / 2 : 0;
        text.append("planks ").append(planks).append(" bear ").append(least + upTo(most)).append(";");
        int people = now(3) ? 7 : now(10) ? 0 : 1 + upTo(5);
        for (int i = 0; i < people; i++) {
            text.append("person");
            for (int flags = now(40) ? 0 : now(80) ? 1 : 2; flags > 0; flags--) {
                text.append(" at ").append(now(1) ? planks + 2 : now(50) ? 0 : upTo(planks + 1));
            }
            text.append(";");
        }
        for (int i = upTo(3); i > 0; i--) {
            text.append("plank ").append(now(1) ? planks : upTo(Math.max(0, planks - 1))).append(" bears ")
                .append(least + upTo(most)).append(";");
        }
        for (int i = people > 1 ? upTo(now(30) ? 25 : 9) : 0; i > 0; i--) {
            int p = upTo(people - 1);
            int q = now(1) ? upTo(people) : (p + 1 + upTo(people - 2)) % people;
            text.append("owes ").append(p).append(" to ").append(q).append(" of ")
                .append(now(1) ? 0 : 1 + upTo(now(60) ? 7 : 98)).append(";");
        }
        laws(text);
        if (now(70)) {
            text.append("snowy ").append(now(2) ? 11 : upTo(10)).append(";");
        }
        if (now(40)) {
            text.append("day ").append(upTo(999)).append(";");
        }
        String told = now(25) ? spoiled(text.toString()) : text.toString();
        return told.length() > 900 ? told.substring(0, 900) : told;
    }

    private void laws(StringBuilder text) {
        if (now(60)) {
            weighs = true;
            String law = now(40) ? "debt + " + sum(5) : now(40) ? plainWeight() : sum(upTo(7));
            text.append("weighs:").append(law).append(";");
        }
        if (now(50)) {
            weighs = false;
            text.append("lets :").append(now(30) ? plainTruth() : truth(upTo(7))).append(";");
        }
    }

    /** Laws by which snow and days decide now and then. */
    private String plainWeight() {
        String[] laws = {"debt+snow*" + upTo(30), upTo(60) + "-snow*" + upTo(40) + "+who*" + upTo(5), "debt+day*" + upTo(8),
            "owed*2+debt*(1+snow)", "debt*papers+owed", upTo(80) + "-debt", "debt-day*who+" + upTo(9), "(who+1)*" + upTo(12)};
        return laws[upTo(laws.length - 1)];
    }

    private String plainTruth() {
        String[] laws = {"not snow=1", "snow=1 or day<" + upTo(6), "others<" + upTo(3), "weight<" + upTo(60) + " and day>0",
            "plank<" + upTo(8) + " or who=" + upTo(5), "not[day=" + upTo(6) + " or snow=1 and who>" + upTo(4) + "]"};
        return laws[upTo(laws.length - 1)];
    }

    private String sum(int depth) {
        String text = term(depth);
        for (int i = now(50) ? 0 : upTo(2); i > 0; i--) {
            text += (now(50) ? " + " : "-") + term(depth);
        }
        return text;
    }

    private String term(int depth) {
        String text = atom(depth);
        for (int i = now(70) ? 0 : upTo(2); i > 0; i--) {
            text += "*" + atom(depth);
        }
        return text;
    }

    private String atom(int depth) {
        if (depth > 0 && now(35)) {
            return "(" + sum(depth - 1) + ")";
        }
        if (now(40)) {
            return "" + (now(80) ? upTo(12) : upTo(999));
        }
        String[] words = weighs || now(1) ? new String[] {"who", "day", "snow", "debt", "papers", "owed", "debt"}
            : new String[] {"who", "day", "snow", "plank", "weight", "others", "weight"};
        return words[upTo(6)];
    }

    private String truth(int depth) {
        String text = both(depth);
        for (int i = now(50) ? 0 : upTo(2); i > 0; i--) {
            text += " or " + both(depth);
        }
        return text;
    }

    private String both(int depth) {
        String text = unit(depth);
        for (int i = now(70) ? 0 : upTo(2); i > 0; i--) {
            text += " and " + unit(depth);
        }
        return text;
    }

    private String unit(int depth) {
        if (depth > 0 && now(25)) {
            return "not " + unit(depth - 1);
        }
        if (depth > 0 && now(25)) {
            return "[" + truth(depth - 1) + "]";
        }
        if (now(40)) {
            return "weight < " + upTo(60);
        }
        return sum(Math.min(depth, 2)) + "=<>".charAt(upTo(2)) + sum(Math.min(depth, 2));
    }

    /** A text with some of its characters or words changed. */
    private String spoiled(String text) {
        StringBuilder spoiled = new StringBuilder(text);
        String[] bits = {";", ":", "+", "-", "*", "(", ")", "[", "]", "=", "<", ">", " ", "\n", "not ", "person;",
            "planks", "plank ", "at ", "to", "of", "1", "0", "99", "1000", "#", "A", "\t", "\u00e9", "day", "\0", "q"};
        for (int i = 1 + upTo(2); i > 0; i--) {
            int at = upTo(spoiled.length());
            if (now(50)) {
                spoiled.insert(at, bits[upTo(bits.length - 1)]);
            } else if (at < spoiled.length()) {
                int to = Math.min(spoiled.length(), at + 1 + (now(70) ? 0 : upTo(5)));
                spoiled.replace(at, to, now(50) ? "" : bits[upTo(bits.length - 1)]);
            }
        }
        return now(15) ? spoiled.substring(0, upTo(spoiled.length())) : spoiled.toString();
    }
}
