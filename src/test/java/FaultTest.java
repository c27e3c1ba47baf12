import java.util.Random;

/** Promises 6, 7, 8: texts that stand and texts a few signs away from them, against a second reading. */
public final class FaultTest {
    private static final Checks CHECKS = new Checks("FaultTest");
    private static final int ROUNDS = 20000;

    private final Random random = new Random(20261118);
    private final int[] seen = new int[7];

    public static void main(String[] args) {
        FaultTest test = new FaultTest();
        test.lines();
        test.lands();
        test.laws();
        CHECKS.end();
    }

    private void lines() {
        for (int i = 0; i < ROUNDS; i++) {
            String text = cut(spoilt(Texts.line(random), "urdl.()0123456789 x"), 60);
            HeelHounds hunt = new HeelHounds();
            int due = Grammar.line(text);
            CHECKS.due("line " + text, Checks.line(hunt, 0, 3, 3, 0, text), due);
            CHECKS.due("it is laid " + text, hunt.count(3), due > 0 ? 1 : 0);
            saw(due);
        }
        allSeen("line", 1, 5, 6);
    }

    private void lands() {
        for (int i = 0; i < ROUNDS; i++) {
            String text = cut(spoilt(Texts.land(random), "~abhi0123456789,:x=; "), 160);
            HeelHounds hunt = new HeelHounds();
            int due = Grammar.land(text);
            CHECKS.due("land " + text, Checks.land(hunt, text), due);
            CHECKS.due("it lies " + text, hunt.count(5), Math.max(due, 0));
            saw(due);
        }
        allSeen("land", 1, 2, 3, 4);
    }

    private void laws() {
        for (int i = 0; i < ROUNDS; i++) {
            String text = cut(spoilt(Texts.law(random), "erxhcasgfnt0123456789()[]!&|<>=+-*/%; "), 240);
            HeelHounds hunt = new HeelHounds();
            int due = Grammar.law(text);
            CHECKS.due("law " + text, Checks.law(hunt, text), due);
            CHECKS.due("it holds " + text, hunt.count(6), Math.max(due, 0));
            saw(due);
        }
        allSeen("law", 1, 2, 4, 5);
    }

    private String cut(String text, int most) {
        return text.length() <= most ? text : text.substring(0, most);
    }

    /** None to four signs of the text left out, put in, put in anew or said twice. */
    private String spoilt(String text, String signs) {
        StringBuilder spoilt = new StringBuilder(text);
        for (int i = random.nextInt(5); i > 0; i--) {
            int at = random.nextInt(spoilt.length());
            char sign = signs.charAt(random.nextInt(signs.length()));
            switch (random.nextInt(4)) {
                case 0:
                    spoilt.insert(at, sign);
                    break;
                case 1:
                    spoilt.setCharAt(at, sign);
                    break;
                case 2:
                    spoilt.insert(at, spoilt.charAt(at));
                    break;
                default:
                    if (spoilt.length() > 1) {
                        spoilt.deleteCharAt(at);
                    }
                    break;
            }
        }
        return spoilt.toString();
    }

    private void saw(int due) {
        seen[due > 0 ? 0 : -due / 1000]++;
    }

    /** A test that never comes to a FAULT tells nothing of it. */
    private void allSeen(String what, int... faults) {
        CHECKS.due(what + ": some stand", seen[0] > 100, true);
        for (int fault : faults) {
            CHECKS.due(what + ": FAULTS " + fault + " were met", seen[fault] > 20, true);
        }
        java.util.Arrays.fill(seen, 0);
    }
}
