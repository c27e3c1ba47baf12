import java.util.Random;

/** All promises: long runs of calls by chance, each asked of the class and of the model. */
public final class ModelTest {
    private static final Checks CHECKS = new Checks("ModelTest");
    private static final int RUNS = 400;
    // A text takes up to 13 calls more, and what is asked behind the 512th is free.
    private static final int CALLS = 490;

    private final Random random;
    private final HeelHounds real = new HeelHounds();
    private final Model model = new Model();

    private ModelTest(int run) {
        random = new Random(run);
    }

    public static void main(String[] args) {
        for (int run = 0; run < RUNS; run++) {
            new ModelTest(run).run("run " + run + ": ");
        }
        CHECKS.end();
    }

    private void run(String name) {
        int calls = 0;
        while (calls < CALLS) {
            int kind = random.nextInt(36);
            calls += kind < 6 ? tell(name, kind) : ask(name, kind);
        }
    }

    /** A text by the tape, most often one that stands; how many calls that took. */
    private int tell(String name, int kind) {
        String text = kind < 3 ? lineText() : kind == 3 ? Texts.land(random) : kind == 4 ? lawText() : finds();
        int fed = feed(text);
        int n = odd() ? random.nextInt(270) - 5 : text.length();
        int c = creature();
        int x = odd() ? random.nextInt(20) - 2 : 4 + random.nextInt(4);
        int y = odd() ? random.nextInt(16) - 2 : 4 + random.nextInt(4);
        int from = odd() ? random.nextInt(10002) - 1 : Math.max(0, model.count(0) - random.nextInt(90));
        int off = odd() ? random.nextInt(104) - 2 : random.nextInt(20);
        switch (kind) {
            case 3:
                due(name, "land " + text, real.land(n), model.land(n));
                break;
            case 4:
                due(name, "law " + text, real.law(n), model.law(n));
                break;
            case 5:
                due(name, "couldBe " + off, real.couldBe(n / 3, off), model.couldBe(n / 3, off));
                break;
            default:
                due(name, "line " + text, real.line(c, x, y, from, n), model.line(c, x, y, from, n));
                break;
        }
        return fed + 1;
    }

    private String lineText() {
        String text = Texts.line(random);
        return text.length() > 60 ? "u9r" : text;
    }

    /** Laws that let hounds run are rare by chance, so half of them are made so. */
    private String lawText() {
        String first = random.nextBoolean() ? "es(g<5|a>3);" : "es(1=1);";
        String text = (random.nextBoolean() ? "" : first) + Texts.law(random);
        return text.length() > 240 ? "e1(n<2)" : text;
    }

    private String finds() {
        StringBuilder text = new StringBuilder();
        for (int i = random.nextInt(3); i >= 0; i--) {
            int time = Math.max(0, model.count(0) - random.nextInt(50));
            int place = Math.max(0, model.where(creature(), time));
            text.append((char) (odd() ? random.nextInt(256) : place));
            text.append((char) (time & 255)).append((char) (time >> 8));
        }
        return text.toString();
    }

    private int feed(String text) {
        int fed = 0;
        for (int start = 0; start < text.length(); start += 20) {
            int[] words = new int[5];
            for (int i = 0; i < 20; i++) {
                words[i / 4] = words[i / 4] << 8 | (start + i < text.length() ? text.charAt(start + i) : 200);
            }
            int got = real.feed(words[0], words[1], words[2], words[3], words[4]);
            CHECKS.due("feed", got, model.feed(words));
            fed++;
        }
        return fed;
    }

    private boolean odd() {
        return random.nextInt(25) == 0;
    }

    private int creature() {
        return odd() ? random.nextInt(14) - 3 : random.nextInt(4);
    }

    private int houndNumber() {
        return odd() ? random.nextInt(12) - 3 : random.nextInt(6);
    }

    private int what(int most) {
        return random.nextInt(most + (odd() ? 3 : 1)) - (odd() ? 1 : 0);
    }

    private int timeAbout() {
        return odd() ? random.nextInt(20010) - 5 : model.count(0) - random.nextInt(60);
    }

    private void due(String name, String call, int got, int want) {
        CHECKS.due(name + call, got, want);
    }

    private void due(String name, String call, boolean got, boolean want) {
        CHECKS.due(name + call, got, want);
    }

    private int ask(String name, int kind) {
        return kind < 16 ? askOfHounds(name, kind) : askOfLines(name, kind);
    }

    private int askOfHounds(String name, int kind) {
        int h = houndNumber();
        int n = odd() ? random.nextInt(104) - 2 : 1 + random.nextInt(12);
        int x = odd() ? random.nextInt(20) - 2 : 3 + random.nextInt(6);
        int y = odd() ? random.nextInt(16) - 2 : 3 + random.nextInt(6);
        int f = odd() ? random.nextInt(14) - 2 : random.nextInt(3);
        int t = model.count(0) + (odd() ? random.nextInt(2000) - 50 : random.nextInt(6));
        int tried = random.nextInt(4) == 0 ? what(2) : 10 * (1 + random.nextInt(3)) + h;
        int what = what(3);
        int few = Math.min(n, 4);
        int seed = odd() ? random.nextInt(80000) - 5000 : random.nextInt(65536);
        switch (kind) {
            case 6:
            case 7:
                due(name, "hound " + h, real.hound(h, x, y), model.hound(h, x, y));
                break;
            case 8:
                due(name, "fading " + f, real.fading(f), model.fading(f));
                break;
            case 9:
                due(name, "time " + t, real.time(t), model.time(t));
                break;
            case 10:
                due(name, "moments " + few, real.moments(few), model.moments(few));
                break;
            case 11:
                due(name, "tried " + n + " " + tried, real.tried(n, tried), model.tried(n, tried));
                break;
            case 12:
                due(name, "houndIs " + h + " " + what, real.houndIs(h, what), model.houndIs(h, what));
                break;
            case 13:
                due(name, "firstHome " + few, real.firstHome(few, what % 2), model.firstHome(few, what % 2));
                break;
            case 14:
                due(name, "seed " + seed, real.seed(seed), model.seed(seed));
                break;
            default:
                if (f == 0) {
                    due(name, "keep", real.keep(), model.keep());
                } else {
                    due(name, "undo", real.undo(), model.undo());
                }
                break;
        }
        return 1;
    }

    private int askOfLines(String name, int kind) {
        int c = creature();
        int d = creature();
        int t = timeAbout();
        int x = odd() ? random.nextInt(20) - 2 : 2 + random.nextInt(8);
        int y = odd() ? random.nextInt(16) - 2 : 2 + random.nextInt(8);
        int far = odd() ? random.nextInt(30) - 2 : random.nextInt(8);
        int one = random.nextInt(odd() ? 200 : 192) - (odd() ? 3 : 0);
        int other = random.nextInt(odd() ? 200 : 192) - (odd() ? 3 : 0);
        int left = random.nextInt(3) == 0 ? 100 : odd() ? random.nextInt(110) - 3 : random.nextInt(12);
        int strength = odd() ? random.nextInt(104) - 2 : 1 + random.nextInt(99);
        int h = houndNumber();
        int what = what(3);
        switch (kind) {
            case 16:
                due(name, "where " + c + " " + t, real.where(c, t), model.where(c, t));
                break;
            case 17:
                due(name, "freshest " + what, real.freshest(x, y, what), model.freshest(x, y, what));
                break;
            case 18:
                due(name, "two " + what, real.two(c, d, what), model.two(c, d, what));
                break;
            case 19:
                due(name, "together " + far, real.together(c, d, far), model.together(c, d, far));
                break;
            case 20:
                due(name, "crowd " + t, real.crowd(t, what % 2), model.crowd(t, what % 2));
                break;
            case 21:
                due(name, "stayed " + what, real.stayed(c, what), model.stayed(c, what));
                break;
            case 22:
                due(name, "unlooped " + left, real.unlooped(c, left), model.unlooped(c, left));
                break;
            case 23:
                due(name, "charges " + what, real.charges(c, what), model.charges(c, what));
                break;
            case 24:
                due(name, "round " + one + " " + other, real.round(one, other), model.round(one, other));
                break;
            case 25:
                due(name, "cast " + h, real.cast(h), model.cast(h));
                break;
            case 26:
                due(name, "huntable " + strength, real.huntable(strength), model.huntable(strength));
                break;
            case 27:
                due(name, "heldIn " + c, real.heldIn(c), model.heldIn(c));
                break;
            case 28:
                due(name, "landAt", real.landAt(x, y), model.landAt(x, y));
                break;
            case 29:
                return askCheck(name);
            case 30:
                int n = what(8);
                due(name, "count " + n, real.count(n), model.count(n));
                break;
            default:
                int of = what(7);
                due(name, "lineIs " + c + " " + of, real.lineIs(c, of), model.lineIs(c, of));
                break;
        }
        return 1;
    }

    private int askCheck(String name) {
        StringBuilder told = new StringBuilder();
        for (int h = 0; h < 6; h++) {
            int faults = model.houndIs(h, 2);
            told.append((char) (odd() ? random.nextInt(10) : faults < 0 ? 255 : faults));
        }
        int fed = feed(told.toString());
        int n = what(6);
        due(name, "check " + n, real.check(n), model.check(n));
        return fed + 1;
    }
}
