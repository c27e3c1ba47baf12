/** Promises 20 (charges), 21 (round) and 24 (couldBe), each sentence at its edge and just past it. */
public final class FieldBoundsTest {
    private static final Checks CHECKS = new Checks("FieldBoundsTest");
    private static final Bounds BOUNDS = new Bounds(CHECKS);

    public static void main(String[] args) {
        charges();
        rounds();
        finds();
        CHECKS.end();
    }

    private static void charges() {
        BOUNDS.test("CHARGES: pence for all times a CREATURE is on FIELDS (what lies on top there)",
            FieldBoundsTest::allTimes);
        BOUNDS.test("the FIELD letter for which most is paid (of like ones the first letter); how much.",
            FieldBoundsTest::dearest);
        BOUNDS.test("CHARGES of a CREATURE with a LINE, what 0 pence, 1 the FIELD (0 to 7; nothing is paid: -2), "
            + "2 how much for that; NONE: no such ones.", FieldBoundsTest::chargesBounds);
    }

    private static void rounds() {
        BOUNDS.test("ROUND: the fewest steps from one PLACE to another one by PLACES that are no water.",
            FieldBoundsTest::round);
        BOUNDS.test("ROUND from a PLACE to a PLACE (16 Y and X each, 0 to 191): steps; -2: no way, one is water; "
            + "NONE: no such ones.", FieldBoundsTest::roundBounds);
    }

    private static void finds() {
        BOUNDS.test("COULD IT BE: 1 to 10 finds (PLACE as Y times 16 and X, a time's low and high byte: of that time or "
            + "at most so many times off)", FieldBoundsTest::manyFinds);
        BOUNDS.test("CREATURES (bits) whose LINE has been at each of them so.", FieldBoundsTest::whoCouldIt);
        BOUNDS.test("so many times off (0 to 99): bits", FieldBoundsTest::timesOff);
        BOUNDS.test("-2: a PLACE above 191", FieldBoundsTest::placeAbove);
        BOUNDS.test("COULD IT BE by the first 3 n bytes of the tape (n 1 to 10; empty then)",
            FieldBoundsTest::findsOfTape);
    }

    private static HeelHounds with(int x, int y, int from, String text, String land) {
        HeelHounds hunt = new HeelHounds();
        Checks.line(hunt, 0, x, y, from, text);
        CHECKS.due("land " + land, Checks.land(hunt, land) > 0, true);
        return hunt;
    }

    private static void allTimes() {
        CHECKS.due("BEGINNING and end", with(0, 0, 0, "2r", "a0,0:1x1=3;b2,0:1x1=5").charges(0, 0), 8);
        CHECKS.due("each time of a stay", with(0, 0, 0, "r3.r", "a1,0:1x1=3").charges(0, 0), 12);
        CHECKS.due("off THE LAND it stays", with(0, 0, 0, "3l", "a0,0:1x1=3").charges(0, 0), 12);
        CHECKS.due("nothing beside", with(0, 0, 0, "2r", "a0,1:16x11=99").charges(0, 0), 0);
        CHECKS.due("0 pence", with(0, 0, 0, "2r", "a0,0:16x12=0").charges(0, 0), 0);
        CHECKS.due("water over a FIELD", with(0, 0, 0, "2r", "a0,0:3x1=3;~1,0:1x1").charges(0, 0), 6);
        CHECKS.due("a FIELD over water", with(0, 0, 0, "2r", "~0,0:3x1;a1,0:1x1=3").charges(0, 0), 3);
        CHECKS.due("a FIELD over another", with(0, 0, 0, "2r", "a0,0:3x1=3;b1,0:1x1=50").charges(0, 0), 56);
        CHECKS.due("the most of all", with(0, 0, 9999, "9(9.)9.6.", "h0,0:1x1=99").charges(0, 0), 97 * 99);
        HeelHounds x = with(0, 0, 500, "2r", "a0,0:3x1=3");
        CHECKS.due("of times that are to come", x.charges(0, 0), 9);
        x.time(9999);
        CHECKS.due("of times that are long past", x.charges(0, 0), 9);
    }

    private static void dearest() {
        // All eight FIELDS, for each in turn one penny more than for the others.
        for (int field = 0; field < 8; field++) {
            StringBuilder land = new StringBuilder();
            for (int other = 0; other < 8; other++) {
                land.append(other == 0 ? "" : ";").append((char) ('a' + other)).append(other).append(",0:1x1=");
                land.append(other == field ? 6 : 5);
            }
            HeelHounds x = with(0, 0, 0, "7r", land.toString());
            CHECKS.due("FIELD", x.charges(0, 1), field);
            CHECKS.due("how much", x.charges(0, 2), 6);
            CHECKS.due("in all", x.charges(0, 0), 41);
        }
        HeelHounds like = with(0, 0, 0, "2r", "h0,0:1x1=5;c1,0:1x1=5;d2,0:1x1=5");
        CHECKS.due("the first letter of like ones", like.charges(0, 1), 2);
        CHECKS.due("how much of like ones", like.charges(0, 2), 5);
        // What is paid counts, not what a time costs: two LINES of LAND of one letter, and two times.
        HeelHounds sum = with(0, 0, 0, "2r.", "b0,0:1x1=3;b1,0:1x1=4;a2,0:1x1=3");
        CHECKS.due("a letter in two places", sum.charges(0, 1), 1);
        CHECKS.due("how much for both", sum.charges(0, 2), 7);
        HeelHounds often = with(0, 0, 0, "r2.", "a0,0:1x1=8;b1,0:1x1=3");
        CHECKS.due("more times", often.charges(0, 1), 1);
        CHECKS.due("how much in more times", often.charges(0, 2), 9);
    }

    private static void chargesBounds() {
        HeelHounds x = with(0, 0, 0, "2r", "a0,5:1x1=5");
        CHECKS.due("nothing is paid: pence", x.charges(0, 0), 0);
        CHECKS.due("nothing is paid: FIELD", x.charges(0, 1), -2);
        CHECKS.due("nothing is paid: how much", x.charges(0, 2), 0);
        HeelHounds free = with(0, 0, 0, "2r", "a0,0:9x1=0");
        CHECKS.due("0 pence are nothing", free.charges(0, 1), -2);
        HeelHounds penny = with(0, 0, 0, "2r", "a0,0:9x1=0;h2,0:1x1=1");
        CHECKS.due("1 penny is something", penny.charges(0, 1), 7);
        CHECKS.due("1 penny", penny.charges(0, 2), 1);
        CHECKS.due("what 3", x.charges(0, 3), -1);
        CHECKS.due("what -1", x.charges(0, -1), -1);
        CHECKS.due("no LINE", x.charges(1, 0), -1);
        CHECKS.due("CREATURE -1", x.charges(-1, 0), -1);
        CHECKS.due("CREATURE 8", x.charges(8, 0), -1);
    }

    private static int round(String land, int x, int y, int column, int row) {
        HeelHounds hunt = new HeelHounds();
        CHECKS.due("land " + land, Checks.land(hunt, land) > 0, true);
        return hunt.round(Checks.place(x, y), Checks.place(column, row));
    }

    private static void round() {
        HeelHounds x = new HeelHounds();
        for (int place = 0; place < 192; place++) {
            CHECKS.due("from 0 to " + place, x.round(0, place), place % 16 + place / 16);
            CHECKS.due("from 191 to " + place, x.round(191, place), 26 - place % 16 - place / 16);
        }
        String wall = "~8,0:1x11";
        CHECKS.due("round the end of a wall", round(wall, 7, 0, 9, 0), 24);
        CHECKS.due("below it", round(wall, 7, 11, 9, 11), 2);
        CHECKS.due("the edge is no way", round("~1,0:1x12;~14,0:1x12", 0, 4, 15, 3), -2);
        CHECKS.due("across no corner", round("~1,0:1x1;~0,1:1x1", 0, 0, 1, 1), -2);
        CHECKS.due("over a FIELD", round("~8,0:1x12;a8,5:1x1=99", 7, 5, 9, 5), 2);
        // To and fro between five walls: the longest way.
        String walls = "~0,1:15x1;~1,3:15x1;~0,5:15x1;~1,7:15x1;~0,9:15x1";
        CHECKS.due("to and fro", round(walls, 0, 0, 0, 10), 6 * 15 + 10);
        CHECKS.due("and back", round(walls, 0, 10, 0, 0), 6 * 15 + 10);
    }

    private static void roundBounds() {
        HeelHounds x = new HeelHounds();
        CHECKS.due("0 to itself", x.round(0, 0), 0);
        CHECKS.due("191 to itself", x.round(191, 191), 0);
        CHECKS.due("from -1", x.round(-1, 0), -1);
        CHECKS.due("to -1", x.round(0, -1), -1);
        CHECKS.due("from 192", x.round(192, 0), -1);
        CHECKS.due("to 192", x.round(0, 192), -1);
        Checks.land(x, "~8,0:1x12");
        CHECKS.due("no way", x.round(7, 9), -2);
        CHECKS.due("from water", x.round(8, 7), -2);
        CHECKS.due("to water", x.round(7, 8), -2);
        CHECKS.due("from water to itself", x.round(8, 8), -2);
        CHECKS.due("from water to water", x.round(8, 24), -2);
        CHECKS.due("from water to none", x.round(8, 192), -1);
        CHECKS.due("on one side", x.round(7, 0), 7);
    }

    /** CREATURE 0 to the right along Y 2 from (0,2) at 10, 1 up along X 4 from (4,6) at 8, 7 at (4,2) at 300 to 302. */
    private static HeelHounds three() {
        HeelHounds x = new HeelHounds();
        Checks.line(x, 0, 0, 2, 10, "8r");
        Checks.line(x, 1, 4, 6, 8, "6u");
        Checks.line(x, 7, 4, 2, 300, "2.");
        return x;
    }

    private static int couldBe(int off, int... placesAndTimes) {
        HeelHounds x = three();
        Checks.feedFinds(x, placesAndTimes);
        return x.couldBe(placesAndTimes.length / 2, off);
    }

    private static void manyFinds() {
        int at = Checks.place(4, 2);
        CHECKS.due("one", couldBe(0, at, 14), 1);
        int[] ten = new int[20];
        for (int i = 0; i < 9; i++) {
            ten[2 * i] = Checks.place(i, 2);
            ten[2 * i + 1] = 10 + i;
        }
        ten[18] = at;
        ten[19] = 14;
        CHECKS.due("ten", couldBe(0, ten), 1);
        ten[19] = 15;
        CHECKS.due("the tenth is wrong", couldBe(0, ten), 0);
        ten[19] = 14;
        ten[1] = 9;
        CHECKS.due("the first is wrong", couldBe(0, ten), 0);
        // A time's low byte comes first: 300 is 44 and 1.
        HeelHounds x = three();
        x.feed(at << 24 | 44 << 16 | 1 << 8, 0, 0, 0, 0);
        CHECKS.due("300", x.couldBe(1, 0), 128);
        x.feed(at << 24 | 1 << 16 | 44 << 8, 0, 0, 0, 0);
        CHECKS.due("11265", x.couldBe(1, 99), 0);
        CHECKS.due("255", couldBe(99, at, 255), 128);
        CHECKS.due("256", couldBe(99, at, 256), 128);
        CHECKS.due("65535", couldBe(99, at, 65535), 0);
        HeelHounds last = new HeelHounds();
        Checks.line(last, 5, 15, 11, 9999, "9(9.)9.6.");
        Checks.feedFinds(last, 191, 10095);
        CHECKS.due("10095", last.couldBe(1, 0), 32);
        Checks.feedFinds(last, 191, 10096);
        CHECKS.due("10096", last.couldBe(1, 0), 0);
        Checks.feedFinds(last, 191, 9998);
        CHECKS.due("9998", last.couldBe(1, 0), 0);
        Checks.feedFinds(last, 191, 9999);
        CHECKS.due("9999", last.couldBe(1, 0), 32);
    }

    private static void whoCouldIt() {
        int at = Checks.place(4, 2);
        CHECKS.due("of two both", couldBe(1, at, 13), 3);
        CHECKS.due("of two neither", couldBe(0, at, 13), 0);
        CHECKS.due("the first find both, the second one", couldBe(1, at, 13, Checks.place(4, 3), 11), 2);
        CHECKS.due("the second find none", couldBe(1, at, 13, 0, 13), 0);
        HeelHounds x = new HeelHounds();
        for (int c = 0; c < 8; c++) {
            Checks.line(x, c, 5, 5, 20, ".");
            Checks.feedFinds(x, 85, 20);
            CHECKS.due("all up to " + c, x.couldBe(1, 0), (2 << c) - 1);
        }
        HeelHounds none = new HeelHounds();
        Checks.feedFinds(none, 85, 20);
        CHECKS.due("no LINES", none.couldBe(1, 99), 0);
    }

    private static void timesOff() {
        int at = Checks.place(4, 2);
        // CREATURE 1 is there at 12 only, 0 at 14 only.
        int[] due = {1, 1, 3, 3};
        for (int off = 0; off < due.length; off++) {
            CHECKS.due(off + " off 14", couldBe(off, at, 14), due[off]);
        }
        CHECKS.due("1 off ahead", couldBe(1, at, 11), 2);
        CHECKS.due("1 off behind", couldBe(1, at, 15), 1);
        CHECKS.due("2 off behind", couldBe(2, at, 16), 1);
        CHECKS.due("not 3 off", couldBe(2, at, 17), 0);
        CHECKS.due("99 off behind", couldBe(99, at, 401), 128);
        CHECKS.due("not 100 off behind", couldBe(99, at, 402), 0);
        CHECKS.due("99 off ahead", couldBe(99, at, 201), 128);
        CHECKS.due("not 100 off ahead", couldBe(99, at, 200), 0);
        CHECKS.due("ahead of time 0", couldBe(99, at, 0), 3);
        HeelHounds x = three();
        Checks.feedFinds(x, at, 14);
        CHECKS.due("off -1", x.couldBe(1, -1), -1);
        CHECKS.due("off 100", x.couldBe(1, 100), -1);
        CHECKS.due("the tape stays", x.count(7), 20);
        CHECKS.due("off 99", x.couldBe(1, 99), 3);
    }

    private static void placeAbove() {
        CHECKS.due("191", couldBe(0, 191, 0), 0);
        CHECKS.due("192", couldBe(0, 192, 0), -2);
        CHECKS.due("255", couldBe(0, 255, 0), -2);
        int at = Checks.place(4, 2);
        CHECKS.due("the second find", couldBe(0, at, 14, 192, 14), -2);
        CHECKS.due("the second, the first being wrong", couldBe(0, at, 99, 192, 14), -2);
        CHECKS.due("the first", couldBe(0, 192, 14, at, 14), -2);
        HeelHounds x = three();
        Checks.feedFinds(x, at, 14, 192, 14);
        CHECKS.due("one that is not asked", x.couldBe(1, 0), 1);
        Checks.feedFinds(x, 192, 14, at, 14);
        CHECKS.due("one that is", x.couldBe(1, 0), -2);
        CHECKS.due("empty then", x.count(7), 0);
        HeelHounds none = new HeelHounds();
        Checks.feedFinds(none, 192, 0);
        CHECKS.due("no LINES", none.couldBe(1, 0), -2);
        int[] ten = new int[20];
        ten[18] = 192;
        CHECKS.due("the tenth", couldBe(0, ten), -2);
    }

    private static void findsOfTape() {
        HeelHounds x = three();
        int at = Checks.place(4, 2);
        CHECKS.due("of an empty tape", x.couldBe(1, 0), -1);
        Checks.feedFinds(x, at, 14, at, 14, at, 14, at, 14, at, 14, at, 14);
        CHECKS.due("n 0", x.couldBe(0, 0), -1);
        CHECKS.due("n -1", x.couldBe(-1, 0), -1);
        CHECKS.due("n 7 of 20 bytes", x.couldBe(7, 0), -1);
        CHECKS.due("the tape stays", x.count(7), 20);
        CHECKS.due("n 6 of 20 bytes", x.couldBe(6, 0), 1);
        CHECKS.due("empty then", x.count(7), 0);
        CHECKS.due("nothing is left", x.couldBe(1, 0), -1);
        int[] many = new int[22];
        for (int i = 0; i < 22; i += 2) {
            many[i] = at;
            many[i + 1] = 14;
        }
        Checks.feedFinds(x, many);
        CHECKS.due("n 11 of 40 bytes", x.couldBe(11, 0), -1);
        CHECKS.due("the most of all", x.couldBe(Integer.MAX_VALUE, 0), -1);
        CHECKS.due("the least of all", x.couldBe(Integer.MIN_VALUE, 0), -1);
        CHECKS.due("three times it is 2", x.couldBe(1431655766, 0), -1);
        CHECKS.due("the tape stays still", x.count(7), 40);
        CHECKS.due("n 10 of 40 bytes", x.couldBe(10, 0), 1);
    }
}
