import java.util.StringJoiner;

/** What an object answers to many questions, so that one can be held against its twin. */
final class Snapshot {
    private static final int[] TIMES = {0, 20, 25};

    private Snapshot() {
    }

    /**
     * A hunt in which each call has something to say: LAND, LINES of 0, 2 and 7, THE LAW, HOUNDS 0, 1, 4 and 5,
     * what was KEPT (without 5) and 40 bytes on the tape that are a LINE of 40 STEPS. It takes 25 calls.
     */
    static HeelHounds full() {
        HeelHounds x = new HeelHounds();
        Checks.land(x, "~3,3:2x2;a4,4:5x5=7;h0,0:1x1=99");
        Checks.line(x, 0, 2, 2, 10, "4r3d");
        Checks.line(x, 2, 6, 9, 5, "2(3u2r.)");
        Checks.line(x, 7, 15, 11, 20, "3l9(2u.)");
        Checks.law(x, "es(g<9995|g>1);r3(h=1);x(f>6)");
        x.fading(2);
        x.time(30);
        x.seed(77);
        x.hound(0, 6, 5);
        x.hound(1, 9, 9);
        x.hound(4, 8, 6);
        x.moments(2);
        x.keep();
        x.moments(1);
        x.hound(5, 12, 11);
        x.moments(1);
        Checks.feed(x, "rd".repeat(20));
        return x;
    }

    /** Asks 359 calls, the last of which use up the tape and what is KEPT. */
    static String of(HeelHounds x) {
        StringJoiner answers = new StringJoiner(" ");
        counts(x, answers);
        hounds(x, answers);
        for (int c = 0; c < 8; c++) {
            for (int what = 0; what < 8; what++) {
                answers.add("lineIs(" + c + "," + what + ")=" + x.lineIs(c, what));
            }
            for (int t : TIMES) {
                answers.add("where(" + c + "," + t + ")=" + x.where(c, t));
            }
            answers.add("charges(" + c + ",0)=" + x.charges(c, 0));
        }
        for (int place = 0; place < 192; place++) {
            answers.add("landAt(" + place + ")=" + x.landAt(place % 16, place / 16));
        }
        answers.add("freshest=" + x.freshest(6, 5, 0) + "," + x.freshest(6, 5, 2));
        answers.add("huntable=" + x.huntable(1) + "," + x.huntable(60));
        answers.add("tried=" + x.tried(9, 0) + "," + x.tried(9, 1) + "," + x.tried(9, 2) + "," + x.tried(3, 10));
        answers.add("line=" + x.line(6, 7, 7, 3, 40) + "," + x.lineIs(6, 7) + "," + x.count(7));
        answers.add("undo=" + x.undo());
        hounds(x, answers);
        answers.add("THE TIME and X undone=" + x.count(0) + "," + x.count(8));
        return answers.toString();
    }

    private static void counts(HeelHounds x, StringJoiner answers) {
        for (int what = 0; what < 9; what++) {
            answers.add("count(" + what + ")=" + x.count(what));
        }
    }

    private static void hounds(HeelHounds x, StringJoiner answers) {
        for (int h = 0; h < 6; h++) {
            for (int what = 0; what < 4; what++) {
                answers.add("houndIs(" + h + "," + what + ")=" + x.houndIs(h, what));
            }
        }
    }

    /** The answers in which two of them differ; empty: none. */
    static String difference(String one, String other) {
        String[] ones = one.split(" ");
        String[] others = other.split(" ");
        StringJoiner apart = new StringJoiner(" ");
        for (int i = 0; i < Math.max(ones.length, others.length); i++) {
            String left = i < ones.length ? ones[i] : "nothing";
            String right = i < others.length ? others[i] : "nothing";
            if (!left.equals(right)) {
                apart.add(left + " but " + right);
            }
        }
        return apart.toString();
    }
}
