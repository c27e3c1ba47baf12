/** The tape and the HOUNDS: promises 2, 5, 11, 28, 29, 30, 31 and 32, each sentence at its edge. */
public final class HoundBoundsTest {
    private static final Checks CHECKS = new Checks("HoundBoundsTest");
    private static final Bounds BOUNDS = new Bounds(CHECKS);

    public static void main(String[] args) {
        hounds();
        tape();
        kept();
        counts();
        CHECKS.end();
    }

    private static void hounds() {
        BOUNDS.test("PLACES, X 0 to 15, Y 0 to 11 (up is Y less)", HoundBoundsTest::places);
        BOUNDS.test("HOUNDS 0 to 5: told or not, at a PLACE", HoundBoundsTest::numbers);
        BOUNDS.test("a TIME HE IS AT (at first 10000: none yet), FAULTS (0 at first), RUNNING (at first), HOME or LOST",
            HoundBoundsTest::atFirst);
        BOUNDS.test("A HOUND at a PLACE (in place of the one before): true; false: no such ones.",
            HoundBoundsTest::inPlace);
        BOUNDS.test("Of a told HOUND, what 0 PLACE (16 Y and X), 1 the TIME HE IS AT, 2 FAULTS, 3 RUNNING 0, HOME 1, "
            + "LOST 2; NONE for others.", HoundBoundsTest::houndIs);
    }

    private static void tape() {
        BOUNDS.test("Twenty bytes come behind the tape, the highest of each int first: how many it has",
            HoundBoundsTest::highestFirst);
        BOUNDS.test("NONE if that would be more than 260.", HoundBoundsTest::fullTape);
        BOUNDS.test("CHECK by the first n bytes of the tape (0 to 6; empty then; of HOUNDS that are not told 255)",
            HoundBoundsTest::checkBytes);
        BOUNDS.test("CHECK: FAULTS of HOUNDS: right, or the first that is not so.", HoundBoundsTest::firstWrong);
        BOUNDS.test("-2: no such n, it has not so many (the tape stays).", HoundBoundsTest::checkRefused);
    }

    private static void kept() {
        BOUNDS.test("THE SEED (0 to 65535; X, too): true; false: no such number.", HoundBoundsTest::seed);
        BOUNDS.test("KEPT: THE TIME.", HoundBoundsTest::keep);
        BOUNDS.test("KEPT: HOUNDS, THE TIME, X;", HoundBoundsTest::whatIsKept);
        BOUNDS.test("UNDONE: as they were KEPT last.", HoundBoundsTest::keptLast);
        BOUNDS.test("UNDONE: true; false: none was KEPT.", HoundBoundsTest::noneKept);
    }

    private static void counts() {
        BOUNDS.test("0 THE TIME, 1 told HOUNDS (bits), 2 RUNNING ones (bits), 3 CREATURES with LINES (bits), 4 FADING, "
            + "5 LINES of LAND, 6 RULES, 7 bytes of the tape, 8 X. NONE for others.", HoundBoundsTest::count);
    }

    private static void places() {
        HeelHounds x = new HeelHounds();
        int[][] corners = {{0, 0}, {15, 0}, {0, 11}, {15, 11}};
        for (int[] at : corners) {
            CHECKS.due("hound at " + at[0] + "," + at[1], x.hound(0, at[0], at[1]), true);
            CHECKS.due("PLACE", x.houndIs(0, 0), 16 * at[1] + at[0]);
        }
        int[][] past = {{-1, 5}, {16, 5}, {5, -1}, {5, 12}, {Integer.MAX_VALUE, 5}, {5, Integer.MIN_VALUE}};
        for (int[] at : past) {
            CHECKS.due("hound at " + at[0] + "," + at[1], x.hound(0, at[0], at[1]), false);
            CHECKS.due("PLACE stays", x.houndIs(0, 0), 191);
        }
        Checks.line(x, 0, 5, 5, 0, "u");
        CHECKS.due("up is Y less", x.where(0, 1), Checks.place(5, 4));
    }

    private static void numbers() {
        HeelHounds x = new HeelHounds();
        for (int h = 0; h < 6; h++) {
            CHECKS.due("hound " + h, x.hound(h, h, 2 * h), true);
            CHECKS.due("told ones", x.count(1), (2 << h) - 1);
        }
        CHECKS.due("hound -1", x.hound(-1, 0, 0), false);
        CHECKS.due("hound 6", x.hound(6, 0, 0), false);
        CHECKS.due("told ones stay", x.count(1), 63);
        for (int h = 0; h < 6; h++) {
            CHECKS.due("PLACE of " + h, x.houndIs(h, 0), Checks.place(h, 2 * h));
        }
    }

    private static void atFirst() {
        for (int h = 0; h < 6; h++) {
            HeelHounds x = new HeelHounds();
            x.hound(h, 3, 4);
            CHECKS.due("TIME HE IS AT", x.houndIs(h, 1), 10000);
            CHECKS.due("FAULTS", x.houndIs(h, 2), 0);
            CHECKS.due("RUNNING", x.houndIs(h, 3), 0);
            CHECKS.due("RUNNING ones", x.count(2), 1 << h);
        }
    }

    private static void inPlace() {
        HeelHounds x = new HeelHounds();
        Checks.line(x, 0, 5, 5, 0, "r");
        Checks.law(x, "e1(1=1)");
        x.hound(0, 5, 5);
        x.hound(1, 9, 9);
        x.moments(9);
        CHECKS.due("HOME", x.houndIs(0, 3), 1);
        CHECKS.due("LOST", x.houndIs(1, 3), 2);
        CHECKS.due("one that was HOME", x.hound(0, 1, 2), true);
        CHECKS.due("one that was LOST", x.hound(1, 3, 4), true);
        int[] places = {Checks.place(1, 2), Checks.place(3, 4)};
        for (int h = 0; h < 2; h++) {
            CHECKS.due("PLACE", x.houndIs(h, 0), places[h]);
            CHECKS.due("TIME HE IS AT", x.houndIs(h, 1), 10000);
            CHECKS.due("FAULTS", x.houndIs(h, 2), 0);
            CHECKS.due("RUNNING", x.houndIs(h, 3), 0);
        }
        CHECKS.due("told ones", x.count(1), 3);
        CHECKS.due("a refused one", x.hound(1, 3, 12), false);
        CHECKS.due("PLACE stays", x.houndIs(1, 0), places[1]);
        // On water, too.
        Checks.land(x, "~0,0:16x12");
        CHECKS.due("on water", x.hound(2, 7, 7), true);
    }

    private static void houndIs() {
        HeelHounds x = new HeelHounds();
        Checks.line(x, 0, 15, 11, 0, "2.");
        Checks.law(x, "e1(1=1)");
        x.time(3);
        x.hound(0, 15, 10);
        x.hound(5, 0, 0);
        x.moments(2);
        int[][] due = {{191, 1, 0, 0}, {0, 10000, 2, 0}};
        for (int what = 0; what < 4; what++) {
            CHECKS.due("HOUND 0, " + what, x.houndIs(0, what), due[0][what]);
            CHECKS.due("HOUND 5, " + what, x.houndIs(5, what), due[1][what]);
            CHECKS.due("HOUND 1 is not told", x.houndIs(1, what), -1);
            CHECKS.due("HOUND -1", x.houndIs(-1, what), -1);
            CHECKS.due("HOUND 6", x.houndIs(6, what), -1);
        }
        CHECKS.due("what 4", x.houndIs(0, 4), -1);
        CHECKS.due("what -1", x.houndIs(0, -1), -1);
        x.moments(7);
        CHECKS.due("HOME", x.houndIs(0, 3), 1);
        CHECKS.due("TIME 0", x.houndIs(0, 1), 0);
        CHECKS.due("LOST", x.houndIs(5, 3), 2);
        CHECKS.due("FAULTS 9", x.houndIs(5, 2), 9);
    }

    private static void highestFirst() {
        HeelHounds x = new HeelHounds();
        CHECKS.due("twenty", x.feed(0x75726464, 0x6c2e2e75, 0x75757572, 0x72727264, 0x6464646c), 20);
        CHECKS.due("a LINE of them", x.line(0, 5, 5, 0, 20), 20);
        String steps = "urddl..uuuurrrrddddl";
        int column = 5;
        int row = 5;
        for (int i = 0; i < 20; i++) {
            char step = steps.charAt(i);
            column += step == 'r' ? 1 : step == 'l' ? -1 : 0;
            row += step == 'd' ? 1 : step == 'u' ? -1 : 0;
            CHECKS.due("byte " + i, x.where(0, i + 1), Checks.place(column, row));
        }
        // A byte of 128 and more is above 127, not below 0: a PLACE of 191 is one, 192 is none.
        x.feed(0xbf000000, 0, 0, 0, 0);
        CHECKS.due("PLACE 191", x.couldBe(1, 0), 0);
        x.feed(0xc0000000, 0, 0, 0, 0);
        CHECKS.due("PLACE 192", x.couldBe(1, 0), -2);
        x.feed(0xffffffff, 0, 0, 0, 0);
        CHECKS.due("PLACE 255", x.couldBe(1, 0), -2);
        // A second feed comes behind the first.
        x.feed('r' << 24 | 'r' << 16 | 'r' << 8 | 'r', 0x72727272, 0x72727272, 0x72727272, 0x72727272);
        CHECKS.due("forty", x.feed(0x64646464, 0x64646464, 0x64646464, 0x64646464, 0x64646464), 40);
        CHECKS.due("a LINE of all", x.line(2, 0, 0, 0, 40), 40);
        CHECKS.due("behind twenty", x.where(2, 20), 15);
        CHECKS.due("behind forty", x.where(2, 40), 191);
    }

    private static void fullTape() {
        HeelHounds x = new HeelHounds();
        for (int fed = 20; fed <= 260; fed += 20) {
            int word = fed == 20 ? 0x7228312b : 0x2b312b31;
            CHECKS.due("feed", x.feed(word, 0x2b312b31, 0x2b312b31, 0x2b312b31, 0x2b312b31), fed);
            CHECKS.due("bytes of the tape", x.count(7), fed);
        }
        CHECKS.due("more than 260", x.feed(0, 0, 0, 0, 0), -1);
        CHECKS.due("once more", x.feed(-1, -1, -1, -1, -1), -1);
        CHECKS.due("bytes of the tape stay", x.count(7), 260);
        // What was there is there still: a RULE whose ( stands ahead of its E.
        CHECKS.due("the first byte", x.law(240), -1001);
        CHECKS.due("empty then", x.count(7), 0);
        CHECKS.due("there is room again", x.feed(0, 0, 0, 0, 0), 20);
        HeelHounds y = new HeelHounds();
        Checks.feed(y, "e1" + "+1".repeat(116) + "(1=1);" + "#".repeat(20));
        CHECKS.due("full", y.count(7), 260);
        CHECKS.due("refused", y.feed(0, 0, 0, 0, 0), -1);
        CHECKS.due("all its bytes are as told", y.law(239), 1);
    }

    private static HeelHounds withFaults() {
        HeelHounds x = new HeelHounds();
        x.hound(0, 0, 0);
        x.moments(1);
        x.hound(2, 0, 0);
        x.moments(2);
        x.hound(5, 0, 0);
        // HOUND 0 has 3 FAULTS, 2 has 2, 5 has none.
        return x;
    }

    private static void checkBytes() {
        String right = "\u0003\u00ff\u0002\u00ff\u00ff\u0000";
        for (int n = 0; n <= 6; n++) {
            HeelHounds x = withFaults();
            Checks.feed(x, right.substring(0, n) + "?");
            CHECKS.due("check(" + n + ")", x.check(n), -1);
            CHECKS.due("empty then", x.count(7), 0);
        }
        HeelHounds none = new HeelHounds();
        CHECKS.due("check(0) of an empty tape", none.check(0), -1);
        CHECKS.due("it is empty", none.count(7), 0);
        none.feed(-1, -1, -1, -1, -1);
        CHECKS.due("255 for all", none.check(6), -1);
        none.feed(-1, -2, -1, -1, -1);
        CHECKS.due("254 lies behind", none.check(6), -1);
        none.feed(-1, 0xfffeffff, -1, -1, -1);
        CHECKS.due("254 for the last", none.check(6), 5);
        none.feed(0, 0, 0, 0, 0);
        CHECKS.due("0 for one that is not told", none.check(1), 0);
        none.hound(0, 0, 0);
        none.feed(-1, -1, -1, -1, -1);
        CHECKS.due("255 for one that is told", none.check(1), 0);
        none.moments(9);
        none.feed(0x09000000, 0, 0, 0, 0);
        CHECKS.due("nine FAULTS of one that is LOST", none.check(1), -1);
    }

    private static void firstWrong() {
        String right = "\u0003\u00ff\u0002\u00ff\u00ff\u0000";
        for (int h = 0; h < 6; h++) {
            for (int off = -1; off <= 1; off += 2) {
                HeelHounds x = withFaults();
                StringBuilder told = new StringBuilder(right);
                told.setCharAt(h, (char) (right.charAt(h) + off & 255));
                Checks.feed(x, told.toString());
                CHECKS.due("one is wrong", x.check(6), h);
                CHECKS.due("empty then", x.count(7), 0);
                Checks.feed(x, told.toString());
                CHECKS.due("it is not asked", x.check(h), -1);
                told.setCharAt(5, (char) 77);
                Checks.feed(x, told.toString());
                CHECKS.due("the first of two", x.check(6), h);
            }
        }
    }

    private static void checkRefused() {
        HeelHounds x = withFaults();
        CHECKS.due("check(1) of an empty tape", x.check(1), -2);
        x.feed(0x03ff02ff, 0xff000000, 0, 0, 0);
        int[] none = {-1, 7, 8, 20, Integer.MIN_VALUE, Integer.MAX_VALUE};
        for (int n : none) {
            CHECKS.due("check(" + n + ")", x.check(n), -2);
            CHECKS.due("the tape stays", x.count(7), 20);
        }
        CHECKS.due("its bytes stay", x.check(6), -1);
        CHECKS.due("check(6) of an empty tape", x.check(6), -2);
    }

    private static void seed() {
        HeelHounds x = new HeelHounds();
        int[] taken = {0, 65535, 1, 40000};
        for (int seed : taken) {
            CHECKS.due("seed " + seed, x.seed(seed), true);
            CHECKS.due("X", x.count(8), seed);
        }
        int[] refused = {-1, 65536, Integer.MIN_VALUE, Integer.MAX_VALUE};
        for (int seed : refused) {
            CHECKS.due("seed " + seed, x.seed(seed), false);
            CHECKS.due("X stays", x.count(8), 40000);
        }
        // X, too: the next DRAW is by it, whatever was drawn before.
        x.hound(0, 0, 0);
        x.moments(3);
        x.seed(1);
        x.moments(1);
        CHECKS.due("X behind 1", x.count(8), 39022);
    }

    private static void keep() {
        HeelHounds x = new HeelHounds();
        CHECKS.due("at 0", x.keep(), 0);
        x.time(7);
        CHECKS.due("at 7", x.keep(), 7);
        x.moments(2);
        CHECKS.due("at 9", x.keep(), 9);
        x.time(9999);
        CHECKS.due("at 9999", x.keep(), 9999);
        CHECKS.due("nothing else: X", x.count(8), 1);
        CHECKS.due("nothing else: THE TIME", x.count(0), 9999);
    }

    private static void whatIsKept() {
        HeelHounds x = new HeelHounds();
        Checks.line(x, 0, 5, 5, 0, "9r");
        Checks.law(x, "e1(1=1)");
        x.time(20);
        x.hound(0, 14, 5);
        x.hound(1, 9, 9);
        x.seed(500);
        x.moments(2);
        int drawn = x.count(8);
        CHECKS.due("keep", x.keep(), 22);
        x.hound(1, 3, 3);
        x.hound(4, 3, 3);
        x.moments(30);
        x.seed(9);
        x.fading(7);
        Checks.line(x, 1, 1, 1, 1, "d");
        Checks.land(x, "~0,0:1x1");
        Checks.law(x, "x(1=1);x(1=1)");
        x.feed(1, 2, 3, 4, 5);
        CHECKS.due("undo", x.undo(), true);
        int[][] due = {{Checks.place(13, 5), 8, 0, 0}, {Checks.place(9, 9), 10000, 2, 0}};
        for (int what = 0; what < 4; what++) {
            CHECKS.due("HOUND 0, " + what, x.houndIs(0, what), due[0][what]);
            CHECKS.due("HOUND 1, " + what, x.houndIs(1, what), due[1][what]);
            CHECKS.due("HOUND 4 is told no more", x.houndIs(4, what), -1);
        }
        int[] counts = {22, 3, 3, 3, 7, 1, 2, 20, drawn};
        for (int what = 0; what < 9; what++) {
            CHECKS.due("count(" + what + ")", x.count(what), counts[what]);
        }
        CHECKS.due("LAND stays as told", x.landAt(0, 0), 1);
        CHECKS.due("THE TIME may be told from there on", x.time(22), true);
    }

    private static void keptLast() {
        HeelHounds x = new HeelHounds();
        x.keep();
        x.time(10);
        x.hound(2, 1, 1);
        x.keep();
        x.time(20);
        x.hound(2, 2, 2);
        CHECKS.due("undo", x.undo(), true);
        CHECKS.due("THE TIME", x.count(0), 10);
        CHECKS.due("HOUND 2", x.houndIs(2, 0), 17);
        // It stays KEPT: what comes then is undone as well.
        x.hound(2, 3, 3);
        x.moments(3);
        CHECKS.due("undo again", x.undo(), true);
        CHECKS.due("THE TIME again", x.count(0), 10);
        CHECKS.due("HOUND 2 again", x.houndIs(2, 0), 17);
        CHECKS.due("FAULTS again", x.houndIs(2, 2), 0);
        CHECKS.due("X again", x.count(8), 1);
        CHECKS.due("undo at once", x.undo(), true);
        CHECKS.due("THE TIME still", x.count(0), 10);
    }

    private static void noneKept() {
        HeelHounds x = new HeelHounds();
        x.time(5);
        x.hound(0, 1, 1);
        x.moments(1);
        CHECKS.due("undo", x.undo(), false);
        CHECKS.due("THE TIME stays", x.count(0), 6);
        CHECKS.due("HOUNDS stay", x.houndIs(0, 2), 1);
        CHECKS.due("X stays", x.count(8), 39022);
        x.keep();
        CHECKS.due("undo of what was KEPT", x.undo(), true);
    }

    private static void count() {
        HeelHounds x = new HeelHounds();
        x.time(77);
        x.hound(1, 0, 0);
        x.hound(5, 0, 0);
        Checks.line(x, 0, 0, 0, 0, "r");
        Checks.line(x, 7, 0, 0, 0, "r");
        x.fading(6);
        Checks.land(x, "~0,0:1x1;a1,1:1x1=3");
        Checks.law(x, "x(h=5);e1(1=1);r2(1=2)");
        x.seed(65535);
        x.feed(1, 2, 3, 4, 5);
        int[] due = {77, 34, 34, 129, 6, 2, 3, 20, 65535};
        for (int what = 0; what < 9; what++) {
            CHECKS.due("count(" + what + ")", x.count(what), due[what]);
        }
        CHECKS.due("what -1", x.count(-1), -1);
        CHECKS.due("what 9", x.count(9), -1);
        CHECKS.due("the least of all", x.count(Integer.MIN_VALUE), -1);
        CHECKS.due("the most of all", x.count(Integer.MAX_VALUE), -1);
        x.moments(1);
        CHECKS.due("told ones, one is LOST", x.count(1), 34);
        CHECKS.due("RUNNING ones, one is LOST", x.count(2), 2);
        CHECKS.due("THE TIME", x.count(0), 78);
    }
}
