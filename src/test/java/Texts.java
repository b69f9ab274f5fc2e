import java.util.Random;

/** Texts for the tape: laws by chance, some of them spoilt, and how a text is fed. */
final class Texts {
    private static final String[] FACTS = {"kind", "letters", "names", "order", "like", "bridge", "day", "kept"};
    private static final String[] PARTS = {"leave", "keep", "when", "or", "and", "not", "kind", "letters", "names", "order",
        "like", "bridge", "day", "kept", ";", "+", "-", "*", "/", "(", ")", "<", "=", ">", "0", "1", "12", "9999", "00000",
        "/ 0", "/0000", "x", "Leave", "keeper", "\t", "\0", "\u00e9", "#", "not not not not", "((((", "leave;leave;"};

    private Texts() { }

    /** Five numbers for every twenty signs, the last ones filled up with blanks. */
    static int[][] feeds(String text) {
        int[][] all = new int[(text.length() + 19) / 20][5];
        for (int i = 0; i < all.length * 20; i++) {
            int sign = i < text.length() ? text.charAt(i) & 255 : ' ';
            all[i / 20][i % 20 / 4] |= sign << 24 - 8 * (i % 4);
        }
        return all;
    }

    static String law(Random random) {
        StringBuilder text = new StringBuilder();
        int lines = random.nextInt(8) == 0 ? 16 + random.nextInt(2) : random.nextInt(5);
        for (int i = 0; i < lines; i++) {
            StringBuilder line = new StringBuilder(random.nextBoolean() ? "leave" : "keep");
            if (random.nextInt(6) != 0 && lines < 10) {
                line.append(blanks(random, 1)).append("when").append(blanks(random, 1));
                line.append(condition(random, random.nextInt(4)));
            }
            line.append(blanks(random, 0)).append(';').append(blanks(random, 0));
            if (text.length() + line.length() <= 400) {
                text.append(line);
            }
        }
        if (random.nextInt(3) == 0) {
            spoil(random, text);
        }
        if (text.length() > 400) {
            text.setLength(400);
        }
        return text.toString();
    }

    /** A law by which few names may be left, so that ways are closed and plans need christenings. */
    static String tightLaw(Random random) {
        StringBuilder text = new StringBuilder();
        int lines = 1 + random.nextInt(4);
        for (int i = 0; i < lines; i++) {
            text.append("leave when ").append(FACTS[random.nextInt(3)]).append("=").append(random.nextInt(6));
            text.append(random.nextBoolean() ? " and " : " or ").append(FACTS[random.nextInt(FACTS.length)]);
            text.append(random.nextBoolean() ? "<" : "=").append(random.nextInt(5)).append(";");
        }
        return text.append("keep;").toString();
    }

    /** A law by which it matters who crosses first. */
    static String lawOfTurns(Random random) {
        String[] facts = {"order", "like", "kept", "names"};
        StringBuilder text = new StringBuilder();
        int lines = 1 + random.nextInt(2);
        for (int i = 0; i < lines; i++) {
            text.append(random.nextBoolean() ? "leave when " : "keep when ").append(facts[random.nextInt(4)]);
            text.append("<=>".charAt(random.nextInt(3))).append(random.nextInt(3));
            text.append(random.nextBoolean() ? " and " : " or ").append(facts[random.nextInt(4)]);
            text.append("<=>".charAt(random.nextInt(3))).append(random.nextInt(3)).append(";");
        }
        return text.toString();
    }

    private static void spoil(Random random, StringBuilder text) {
        int times = 1 + random.nextInt(2);
        for (int i = 0; i < times; i++) {
            int place = random.nextInt(text.length() + 1);
            if (random.nextBoolean() && place < text.length()) {
                text.delete(place, Math.min(text.length(), place + 1 + random.nextInt(4)));
            } else {
                text.insert(place, PARTS[random.nextInt(PARTS.length)]);
            }
        }
    }

    private static String blanks(Random random, int least) {
        int count = random.nextInt(5) == 0 ? least + random.nextInt(3) : least;
        return (random.nextInt(6) == 0 ? "\n" : " ").repeat(count);
    }

    private static String condition(Random random, int depth) {
        StringBuilder text = new StringBuilder(claim(random, depth));
        while (random.nextInt(3) == 0) {
            text.append(random.nextBoolean() ? " and " : " or ").append(claim(random, depth - 1));
        }
        return text.toString();
    }

    private static String claim(Random random, int depth) {
        int choice = random.nextInt(4);
        if (choice == 0 && depth > 0) {
            return "not " + claim(random, depth - 1);
        }
        if (choice == 1 && depth > 0) {
            return "(" + condition(random, depth - 1) + blanks(random, 0) + ")";
        }
        String sign = "<=>".substring(random.nextInt(3)).substring(0, 1);
        return sum(random) + blanks(random, 0) + sign + blanks(random, 0) + sum(random);
    }

    private static String sum(Random random) {
        StringBuilder text = new StringBuilder(product(random));
        while (random.nextInt(4) == 0) {
            text.append(random.nextBoolean() ? "+" : " - ").append(product(random));
        }
        return text.toString();
    }

    private static String product(Random random) {
        StringBuilder text = new StringBuilder(unit(random));
        while (random.nextInt(5) == 0) {
            text.append(random.nextBoolean() ? " * " + unit(random) : "/" + (1 + random.nextInt(5)));
        }
        return text.toString();
    }

    private static String unit(Random random) {
        if (random.nextInt(5) < 3) {
            return FACTS[random.nextInt(FACTS.length)];
        }
        int most = random.nextInt(6) == 0 ? 10000 : 10;
        return String.valueOf(random.nextInt(most));
    }
}
