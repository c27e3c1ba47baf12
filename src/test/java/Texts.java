import java.util.Random;

/** Texts of the document's three kinds by chance; most of them stand, some are too long or too deep. */
final class Texts {
    private Texts() {
    }

    static String line(Random random) {
        return steps(random, 0);
    }

    private static String steps(Random random, int open) {
        StringBuilder text = new StringBuilder();
        for (int i = 1 + random.nextInt(5 - open); i > 0; i--) {
            if (random.nextInt(3) == 0) {
                text.append((char) ('2' + random.nextInt(8)));
            }
            if (open < 3 && random.nextInt(4 + 8 * open) == 0) {
                text.append('(').append(steps(random, open + 1)).append(')');
            } else {
                text.append("urdl.".charAt(random.nextInt(5)));
            }
        }
        return text.toString();
    }

    static String land(Random random) {
        StringBuilder text = new StringBuilder(landLine(random));
        int more = random.nextInt(8) == 0 ? 10 + random.nextInt(4) : random.nextInt(6);
        for (int i = 0; i < more; i++) {
            text.append(';').append(landLine(random));
        }
        return text.toString();
    }

    private static String landLine(Random random) {
        int x = random.nextInt(16);
        int y = random.nextInt(12);
        boolean isWater = random.nextInt(3) == 0;
        String places = x + "," + y + ":" + (1 + random.nextInt(16 - x)) + "x" + (1 + random.nextInt(12 - y));
        if (isWater) {
            return "~" + places;
        }
        return (char) ('a' + random.nextInt(8)) + places + "=" + random.nextInt(100);
    }

    static String law(Random random) {
        int rules = random.nextInt(10) == 0 ? 14 + random.nextInt(5) : 1 + random.nextInt(4);
        StringBuilder text = new StringBuilder();
        for (int i = 0; i < rules; i++) {
            int kind = random.nextInt(3);
            text.append(i == 0 ? "" : ";").append("erx".charAt(kind));
            text.append(kind == 2 ? "" : sum(random, 0)).append('(');
            text.append(rules > 9 ? "h=" + random.nextInt(6) : choice(random, 1)).append(')');
        }
        return text.toString();
    }

    private static String choice(Random random, int open) {
        String text = part(random, open);
        for (int i = random.nextInt(5) / 3; i > 0; i--) {
            text = text + "|" + part(random, open);
        }
        return text;
    }

    private static String part(Random random, int open) {
        String text = test(random, open);
        for (int i = random.nextInt(5) / 3; i > 0; i--) {
            text = text + "&" + test(random, open);
        }
        return text;
    }

    private static String test(Random random, int open) {
        int kind = random.nextInt(6);
        if (kind == 0 && open < 8) {
            return "!" + test(random, open + 1);
        }
        if (kind == 1 && open < 8) {
            return "(" + choice(random, open + 1) + ")";
        }
        return sum(random, open) + "<>=".charAt(random.nextInt(3)) + sum(random, open);
    }

    private static String sum(Random random, int open) {
        String text = term(random, open);
        for (int i = random.nextInt(4) / 3; i > 0; i--) {
            text = text + "+-".charAt(random.nextInt(2)) + term(random, open);
        }
        return text;
    }

    private static String term(Random random, int open) {
        String text = factor(random, open);
        for (int i = random.nextInt(4) / 3; i > 0; i--) {
            text = text + "*/%".charAt(random.nextInt(3)) + factor(random, open);
        }
        return text;
    }

    private static String factor(Random random, int open) {
        int kind = random.nextInt(8);
        if (kind == 0 && open < 8) {
            return "[" + sum(random, open + 1) + "]";
        }
        if (kind < 4) {
            return "" + random.nextInt(kind == 1 ? 100000 : 30);
        }
        return "" + "hcasgfnt".charAt(random.nextInt(8));
    }
}
