/** A LINE's sentences and promise 7 (line), each at its edge and just past it. */
public final class LineBoundsTest {
    private static final Checks CHECKS = new Checks("LineBoundsTest");
    private static final Bounds BOUNDS = new Bounds(CHECKS);
    private static final String STEPS = "urdl.";

    public static void main(String[] args) {
        texts();
        faults();
        courses();
        promise();
        CHECKS.end();
    }

    private static void texts() {
        BOUNDS.test("A LINE: a TEXT of at most 60 bytes", LineBoundsTest::sixtyBytes);
        BOUNDS.test("no blanks: STEPS one behind the other", LineBoundsTest::noBlanks);
        BOUNDS.test("u (up), r (right), d (down), l (left), a dot (46, it stays)", LineBoundsTest::signs);
        BOUNDS.test("ahead of each perhaps a digit 2 to 9 (so many of it)", LineBoundsTest::digitOfStep);
        BOUNDS.test("or (STEPS), ahead of it perhaps a digit 2 to 9 (so many times)", LineBoundsTest::digitOfRound);
        BOUNDS.test("96 STEPS at most in all", LineBoundsTest::ninetySix);
    }

    private static void faults() {
        BOUNDS.test("FAULTS, the first from the left: 1 what can't stand there (the end, too); 5",
            LineBoundsTest::cantStand);
        BOUNDS.test("5 a third ( that is open in another one, at it", LineBoundsTest::thirdOpen);
        BOUNDS.test("6 more than 96, at the first byte of what (or its digit) by which they are",
            LineBoundsTest::tooMany);
        BOUNDS.test("(asked when it ends; of an inner one first)", LineBoundsTest::tooManyWhenItEnds);
        BOUNDS.test("FAULTS, the first from the left", LineBoundsTest::firstFromTheLeft);
    }

    private static void courses() {
        BOUNDS.test("A CREATURE is at its BEGINNING at that time, and each time behind it a STEP on",
            LineBoundsTest::stepByStep);
        BOUNDS.test("(one off THE LAND: it stays)", LineBoundsTest::offTheLand);
        BOUNDS.test("it stays no longer behind its last STEP: it is gone", LineBoundsTest::gone);
    }

    private static void promise() {
        BOUNDS.test("The LINE of CREATURE c (0 to 7)", LineBoundsTest::creatures);
        BOUNDS.test("from a BEGINNING (x, y, a time 0 to 9999)", LineBoundsTest::beginnings);
        BOUNDS.test("by the first n bytes of the tape (1 to 60; empty then)", LineBoundsTest::firstBytes);
        BOUNDS.test("in place of the one before: how many STEPS", LineBoundsTest::inPlace);
        BOUNDS.test("(the one before stays)", LineBoundsTest::faultKeeps);
    }

    private static int line(String text) {
        return Checks.line(new HeelHounds(), 0, 5, 5, 0, text);
    }

    private static void due(String text, int want) {
        CHECKS.due("line " + text, line(text), want);
    }

    private static void sixtyBytes() {
        HeelHounds x = new HeelHounds();
        Checks.feed(x, "r".repeat(80));
        CHECKS.due("61 bytes", x.line(0, 0, 0, 0, 61), -1);
        CHECKS.due("the tape stays", x.count(7), 80);
        CHECKS.due("no LINE", x.count(3), 0);
        CHECKS.due("60 bytes", x.line(0, 0, 0, 0, 60), 60);
        CHECKS.due("the last of them is told", x.lineIs(0, 6), 60);
        due("r".repeat(59), 59);
        due("r".repeat(59) + "x", -1059);
    }

    private static void noBlanks() {
        due(" r", -1000);
        due("r ", -1001);
        due("r r", -1001);
        due("2 r", -1001);
        due("( r)", -1001);
        due("(r )", -1002);
        due("2 (r)", -1001);
        due("r\n", -1001);
    }

    /** Each byte there is as a text by itself. */
    private static void signs() {
        for (char sign = 0; sign < 256; sign++) {
            boolean isOpening = sign >= '2' && sign <= '9' || sign == '(';
            int want = STEPS.indexOf(sign) >= 0 ? 1 : isOpening ? -1001 : -1000;
            CHECKS.due("line of byte " + (int) sign, line("" + sign), want);
        }
        int[] places = {Checks.place(5, 4), Checks.place(6, 5), Checks.place(5, 6), Checks.place(4, 5), 85};
        for (int i = 0; i < places.length; i++) {
            HeelHounds x = new HeelHounds();
            Checks.line(x, 0, 5, 5, 0, STEPS.substring(i, i + 1));
            CHECKS.due("where by " + STEPS.charAt(i), x.where(0, 1), places[i]);
        }
    }

    /** Each byte there is ahead of each STEP. */
    private static void digitOfStep() {
        for (char step : STEPS.toCharArray()) {
            for (char sign = 0; sign < 256; sign++) {
                int want = sign >= '2' && sign <= '9' ? sign - '0' : STEPS.indexOf(sign) >= 0 ? 2
                    : sign == '(' ? -1002 : -1000;
                CHECKS.due("byte " + (int) sign + " ahead of " + step, line("" + sign + step), want);
            }
        }
        HeelHounds x = new HeelHounds();
        Checks.line(x, 0, 0, 0, 0, "9r2d");
        CHECKS.due("where behind nine", x.where(0, 9), 9);
        CHECKS.due("where behind one more", x.where(0, 10), Checks.place(9, 1));
        CHECKS.due("where behind two more", x.where(0, 11), Checks.place(9, 2));
        due("22r", -1001);
        due("r2", -1002);
        due("2", -1001);
        due("9", -1001);
    }

    /** Each byte there is ahead of a round. */
    private static void digitOfRound() {
        for (char sign = 0; sign < 256; sign++) {
            int want = sign >= '2' && sign <= '9' ? 2 * (sign - '0') : STEPS.indexOf(sign) >= 0 ? 3
                : sign == '(' ? -1005 : -1000;
            CHECKS.due("byte " + (int) sign + " ahead of (rd)", line(sign + "(rd)"), want);
        }
        HeelHounds x = new HeelHounds();
        Checks.line(x, 0, 0, 0, 0, "9(rd)");
        CHECKS.due("where behind eight rounds", x.where(0, 16), Checks.place(8, 8));
        CHECKS.due("where at the end of nine", x.where(0, 18), Checks.place(9, 9));
        due("()", -1001);
        due("r()", -1002);
        due("(())", -1002);
        due("2()", -1002);
        due("(2)", -1002);
        due("33(r)", -1001);
    }

    private static void ninetySix() {
        due("9(9r)9r5r", 95);
        due("9(9r)9r6r", 96);
        due("9(9r)9r7r", -6007);
        due("8(3(4r))", 96);
        due("8(4(3.))", 96);
        due("9(9.9.)", -6000);
        HeelHounds x = new HeelHounds();
        Checks.line(x, 0, 0, 0, 0, "9(9.)9.6r");
        CHECKS.due("STEPS", x.lineIs(0, 0), 96);
        CHECKS.due("the last of 96", x.where(0, 96), 6);
        CHECKS.due("behind it", x.where(0, 97), -2);
    }

    /** A text that stands, cut at each place: the end can't stand there. */
    private static void cantStand() {
        String text = "2(r3(ud)l).";
        for (int n = 1; n < 10; n++) {
            due(text.substring(0, n), -1000 - n);
        }
        due(text.substring(0, 10), 16);
        due(text, 17);
        due(")", -1000);
        due("r)", -1001);
        due("(r))", -1003);
        due("((r)", -1004);
        due("r1", -1001);
        due("r0", -1001);
        due("R", -1000);
    }

    private static void thirdOpen() {
        due("((r))", 1);
        due("(((r)))", -5002);
        due("(((", -5002);
        due("2(2(2(r)))", -5005);
        due("r(r(r(", -5005);
        due("(r)(r)(r)", 3);
        due("((r)(r)(r))", 3);
        due("((r))((r))", 2);
        due("((r)((r)))", -5005);
        due("((r))(((r)))", -5007);
    }

    private static void tooMany() {
        // A STEP with a digit and one without.
        due("9(9r)9r7r", -6007);
        due("9(9r)9r6rr", -6009);
        due("9(9r)9r6r2r", -6009);
        // A round with a digit, at it; the first of all, and a later one.
        due("9(9r2r)", -6000);
        due("r8(9r3r)", -6001);
        due("9(9r)2(8r)", -6005);
        due("9(9r)3(5r)", 96);
    }

    private static void tooManyWhenItEnds() {
        // What breaks off ahead of its end is a FAULT of its own.
        due("9(9r2rx", -1006);
        due("9(9r2r", -1006);
        due("9(9r)9r7", -1008);
        due("9(9r)9r7x", -1008);
        due("9(9r)9(9r", -1009);
        due("9(9r)9((((", -5008);
        // The inner one ends first, so it is asked first.
        due("2(9(9r)9(9r))", -6007);
        due("9(9(9r)9r7r)", -6009);
        due("9(9(9r)9r6r)", -6000);
        due("9(9(9r2r))", -6002);
    }

    private static void firstFromTheLeft() {
        due("x(((", -1000);
        due("(((x", -5002);
        due("9(9r)9r7rx", -6007);
        due("9(9r)9r7r(((", -6007);
        due("((x((", -1002);
        due("9(9r)x9r7r", -1005);
    }

    private static void stepByStep() {
        HeelHounds x = new HeelHounds();
        Checks.line(x, 3, 4, 4, 50, "r.2dlu");
        int[] due = {Checks.place(4, 4), Checks.place(5, 4), Checks.place(5, 4), Checks.place(5, 5),
            Checks.place(5, 6), Checks.place(4, 6), Checks.place(4, 5)};
        CHECKS.due("ahead of its BEGINNING", x.where(3, 49), -2);
        for (int i = 0; i < due.length; i++) {
            CHECKS.due("where at " + (50 + i), x.where(3, 50 + i), due[i]);
        }
        CHECKS.due("behind its last STEP", x.where(3, 57), -2);
    }

    private static void offTheLand(int x, int y, String text, int... due) {
        HeelHounds hunt = new HeelHounds();
        CHECKS.due("STEPS off THE LAND are STEPS", Checks.line(hunt, 0, x, y, 0, text), due.length);
        for (int i = 0; i < due.length; i++) {
            CHECKS.due("(" + x + "," + y + ") " + text + " at " + (i + 1), hunt.where(0, i + 1), due[i]);
        }
    }

    private static void offTheLand() {
        offTheLand(7, 0, "uud", 7, 7, 23);
        offTheLand(7, 1, "uu", 7, 7);
        offTheLand(15, 3, "rrl", 63, 63, 62);
        offTheLand(14, 3, "rr", 63, 63);
        offTheLand(7, 11, "ddu", 183, 183, 167);
        offTheLand(7, 10, "dd", 183, 183);
        offTheLand(0, 3, "llr", 48, 48, 49);
        offTheLand(1, 3, "ll", 48, 48);
        offTheLand(0, 0, "ulr", 0, 0, 1);
        offTheLand(15, 11, "drl", 191, 191, 190);
    }

    private static void gone() {
        HeelHounds x = new HeelHounds();
        Checks.line(x, 0, 3, 3, 0, "r");
        CHECKS.due("at its last STEP", x.where(0, 1), Checks.place(4, 3));
        CHECKS.due("gone", x.where(0, 2), -2);
        Checks.line(x, 1, 3, 3, 9999, "9(9.)9.6.");
        CHECKS.due("ahead of the last BEGINNING", x.where(1, 9998), -2);
        CHECKS.due("the last BEGINNING", x.where(1, 9999), Checks.place(3, 3));
        CHECKS.due("the last time of all", x.where(1, 10095), Checks.place(3, 3));
        CHECKS.due("behind it", x.where(1, 10096), -2);
        // Gone, it is nobody's company, and it leaves no SCENT.
        CHECKS.due("crowd at its last STEP", x.crowd(1, 1), 1);
        CHECKS.due("crowd behind it", x.crowd(2, 1), 0);
        x.time(9);
        CHECKS.due("SCENTS where it was last", x.freshest(4, 3, 2), 1);
    }

    private static void creatures() {
        HeelHounds x = new HeelHounds();
        for (int c = 0; c < 8; c++) {
            CHECKS.due("CREATURE " + c, Checks.line(x, c, c, 0, 0, "d"), 1);
            CHECKS.due("LINES", x.count(3), (2 << c) - 1);
        }
        for (int c = 0; c < 8; c++) {
            CHECKS.due("where " + c, x.where(c, 1), 16 + c);
        }
        Checks.feed(x, "r");
        CHECKS.due("CREATURE -1", x.line(-1, 0, 0, 0, 1), -1);
        CHECKS.due("CREATURE 8", x.line(8, 0, 0, 0, 1), -1);
        CHECKS.due("the tape stays", x.count(7), 20);
        CHECKS.due("LINES stay", x.count(3), 255);
    }

    private static void beginnings() {
        int[][] taken = {{0, 0, 0}, {15, 11, 9999}, {0, 11, 0}, {15, 0, 9999}};
        for (int[] at : taken) {
            HeelHounds x = new HeelHounds();
            CHECKS.due("a BEGINNING", Checks.line(x, 0, at[0], at[1], at[2], "."), 1);
            CHECKS.due("where", x.where(0, at[2]), Checks.place(at[0], at[1]));
            CHECKS.due("its time", x.lineIs(0, 4), at[2]);
        }
        int[][] refused = {{-1, 0, 0}, {16, 0, 0}, {0, -1, 0}, {0, 12, 0}, {0, 0, -1}, {0, 0, 10000}};
        for (int[] at : refused) {
            HeelHounds x = new HeelHounds();
            CHECKS.due("no BEGINNING", Checks.line(x, 0, at[0], at[1], at[2], "."), -1);
            CHECKS.due("the tape stays", x.count(7), 20);
            CHECKS.due("no LINE", x.count(3), 0);
        }
    }

    private static void firstBytes() {
        HeelHounds x = new HeelHounds();
        CHECKS.due("of an empty tape", x.line(0, 0, 0, 0, 1), -1);
        Checks.feed(x, "rrrrrrrrrrrrrrrrrrrd");
        CHECKS.due("n 0", x.line(0, 0, 0, 0, 0), -1);
        CHECKS.due("n 21 of 20", x.line(0, 0, 0, 0, 21), -1);
        CHECKS.due("the tape stays", x.count(7), 20);
        CHECKS.due("n 20 of 20", x.line(0, 0, 0, 0, 20), 20);
        CHECKS.due("empty then", x.count(7), 0);
        CHECKS.due("the last byte counts", x.where(0, 20), Checks.place(15, 1));
        Checks.feed(x, "dlx");
        CHECKS.due("n 1: no more than the first", x.line(0, 3, 3, 0, 1), 1);
        CHECKS.due("empty of the others, too", x.count(7), 0);
        CHECKS.due("nothing is left of them", x.line(0, 3, 3, 0, 1), -1);
    }

    private static void inPlace() {
        HeelHounds x = new HeelHounds();
        Checks.line(x, 0, 0, 0, 5, "9r");
        Checks.line(x, 1, 0, 9, 5, "2r");
        CHECKS.due("a shorter one", Checks.line(x, 0, 3, 3, 7, "d"), 1);
        CHECKS.due("at the BEGINNING of the one before", x.where(0, 5), -2);
        CHECKS.due("behind its own last STEP", x.where(0, 9), -2);
        CHECKS.due("STEPS", x.lineIs(0, 0), 1);
        CHECKS.due("PLACES", x.lineIs(0, 5), 2);
        CHECKS.due("that of another stays", x.where(1, 7), Checks.place(2, 9));
        x.time(20);
        CHECKS.due("no SCENT of the one before", x.freshest(5, 0, 2), 0);
        CHECKS.due("SCENTS of both", x.huntable(1), 5);
    }

    private static void faultKeeps() {
        HeelHounds x = new HeelHounds();
        Checks.line(x, 0, 3, 3, 7, "2d");
        CHECKS.due("a FAULT behind much that stands", Checks.line(x, 0, 0, 0, 0, "9r9d2(l)x"), -1008);
        CHECKS.due("the tape is empty", x.count(7), 0);
        CHECKS.due("STEPS", x.lineIs(0, 0), 2);
        CHECKS.due("time", x.lineIs(0, 4), 7);
        CHECKS.due("where", x.where(0, 9), Checks.place(3, 5));
        CHECKS.due("more than 96", Checks.line(x, 0, 0, 0, 0, "9(9r9d)"), -6000);
        CHECKS.due("STEPS still", x.lineIs(0, 0), 2);
        CHECKS.due("where still", x.where(0, 8), Checks.place(3, 4));
        CHECKS.due("a third one open", Checks.line(x, 1, 0, 0, 0, "r((("), -5003);
        CHECKS.due("no LINE by it", x.count(3), 1);
        CHECKS.due("nor a place", x.where(1, 0), -1);
    }
}
