/** Questions about LINES: promises 12, 15, 16, 17, 18, 19, 25 and 26, each sentence at its edge. */
public final class WayBoundsTest {
    private static final Checks CHECKS = new Checks("WayBoundsTest");
    private static final Bounds BOUNDS = new Bounds(CHECKS);

    public static void main(String[] args) {
        pairs();
        crowds();
        stays();
        heldIn();
        lines();
        CHECKS.end();
    }

    private static void pairs() {
        BOUNDS.test("WHERE a CREATURE (with a LINE) is at a time (0 to 20000): 16 Y and X; -2: it is not there then; "
            + "NONE: no such ones.", WayBoundsTest::where);
        BOUNDS.test("CROSSED: at how many PLACES lines of two CREATURES both lie (all times)",
            WayBoundsTest::crossed);
        BOUNDS.test("MET: the first time at which both are at one PLACE", WayBoundsTest::met);
        BOUNDS.test("NEAR: the fewest steps (across and along added up) between both at a time at which both are "
            + "there; the first such time.", WayBoundsTest::near);
        BOUNDS.test("CROSSED, MET, NEAR of two CREATURES with LINES (not the same), what 0 PLACES, 1 MET (-2: never), "
            + "2 NEAR, 3 when (-2 of both: never both there); NONE: no such ones.", WayBoundsTest::neverBothThere);
        BOUNDS.test("TOGETHER: at how many times both are there and no more than so many steps apart.",
            WayBoundsTest::together);
        BOUNDS.test("TOGETHER of two CREATURES with LINES (not the same), so many steps (0 to 26); NONE: no such ones.",
            WayBoundsTest::togetherBounds);
    }

    private static void crowds() {
        BOUNDS.test("CROWD: the PLACE at which most CREATURES are at a time (of like ones the lowest); how many.",
            WayBoundsTest::crowd);
        BOUNDS.test("CROWD at a time (0 to 20000), what 0 the PLACE (16 Y and X; nobody is there: -2), 1 how many; "
            + "NONE: no such ones.", WayBoundsTest::crowdBounds);
    }

    private static void stays() {
        BOUNDS.test("STAYED: the PLACE at which a CREATURE is at most times (of like ones the one it came to first); "
            + "at how many.", WayBoundsTest::stayed);
        BOUNDS.test("TWICE: how many PLACES it is at more than once, having been elsewhere between.",
            WayBoundsTest::twice);
        BOUNDS.test("STAYED, TWICE of a CREATURE with a LINE, what 0 the PLACE (16 Y and X), 1 at how many times, "
            + "2 TWICE; NONE: no such ones.", WayBoundsTest::stayedBounds);
        BOUNDS.test("UNLOOPED: its LINE, each time it comes to a PLACE where the row has it already cut back to that",
            WayBoundsTest::unlooped);
        BOUNDS.test("UNLOOPED of a CREATURE with a LINE, what 100 how many PLACES, else the one at place what "
            + "(0 to 96); -4: no such place; NONE: no such ones.", WayBoundsTest::unloopedBounds);
    }

    private static void heldIn() {
        BOUNDS.test("HELD IN: a LINE: PLACES not on it from which one can't come to the edge of THE LAND by steps "
            + "without touching it: how many.", WayBoundsTest::held);
        BOUNDS.test("HELD IN by a CREATURE with a LINE; NONE: no such one.", WayBoundsTest::heldBounds);
    }

    private static void lines() {
        BOUNDS.test("TURNS: how often a LINE's STEPS change direction (stays aside)", WayBoundsTest::turns);
        BOUNDS.test("its longest straight (STEPS of one direction on end, stays aside)", WayBoundsTest::straight);
        BOUNDS.test("the least number of STEPS after which all repeat (the last time perhaps not to the end)",
            WayBoundsTest::repeat);
        BOUNDS.test("4 the time of its BEGINNING, 5 PLACES it is at, 6 the last time at which it is there, 7 the PLACE "
            + "at which it is then (16 Y and X); NONE: no such ones.", WayBoundsTest::lineIs);
    }

    private static HeelHounds with(int x, int y, int from, String text) {
        HeelHounds hunt = new HeelHounds();
        Checks.line(hunt, 0, x, y, from, text);
        return hunt;
    }

    private static HeelHounds both(int x, int y, int from, String text, int x1, int y1, int from1, String text1) {
        HeelHounds hunt = with(x, y, from, text);
        Checks.line(hunt, 1, x1, y1, from1, text1);
        return hunt;
    }

    private static void where() {
        HeelHounds x = with(15, 11, 0, "u");
        Checks.line(x, 7, 0, 0, 9999, "9(9.)9.6.");
        CHECKS.due("time 0", x.where(0, 0), 191);
        CHECKS.due("its last time", x.where(0, 1), 175);
        CHECKS.due("behind it", x.where(0, 2), -2);
        CHECKS.due("ahead", x.where(7, 9998), -2);
        CHECKS.due("time 9999", x.where(7, 9999), 0);
        CHECKS.due("time 10095", x.where(7, 10095), 0);
        CHECKS.due("time 10096", x.where(7, 10096), -2);
        CHECKS.due("time 20000", x.where(7, 20000), -2);
        CHECKS.due("time 20001", x.where(7, 20001), -1);
        CHECKS.due("time -1", x.where(0, -1), -1);
        CHECKS.due("no LINE", x.where(1, 0), -1);
        CHECKS.due("CREATURE -1", x.where(-1, 0), -1);
        CHECKS.due("CREATURE 8", x.where(8, 0), -1);
        // It does not matter what THE TIME is, nor whether there is water.
        x.time(5000);
        Checks.land(x, "~0,0:16x12");
        CHECKS.due("time 0 still", x.where(0, 0), 191);
        CHECKS.due("time 9999 already", x.where(7, 9999), 0);
    }

    private static void crossed() {
        CHECKS.due("none", both(0, 0, 0, "9r", 0, 1, 0, "9r").two(0, 1, 0), 0);
        CHECKS.due("one", both(0, 3, 0, "9r", 5, 0, 0, "9d").two(0, 1, 0), 1);
        CHECKS.due("the BEGINNING of one, the end of the other", both(0, 3, 0, "9r", 9, 3, 50, "2d").two(0, 1, 0), 1);
        CHECKS.due("all", both(0, 3, 0, "9r", 9, 3, 900, "9l").two(0, 1, 0), 10);
        CHECKS.due("each once", both(5, 5, 0, "rlrlrl", 5, 5, 0, "9.").two(0, 1, 0), 1);
        CHECKS.due("each once, the other way", both(5, 5, 0, "9.", 5, 5, 0, "rlrlrl").two(1, 0, 0), 1);
        CHECKS.due("times far apart", both(5, 5, 0, "r", 6, 5, 9999, "r").two(0, 1, 0), 1);
        HeelHounds x = both(0, 0, 0, "9(9r)9d6r", 15, 11, 0, "9(9u)9l6l");
        // (0,0) to (15,0) and down to (15,9); (15,11) up to (15,0) and left to (0,0).
        CHECKS.due("long ones", x.two(0, 1, 0), 25);
    }

    private static void met() {
        CHECKS.due("at the BEGINNING of both", both(5, 5, 7, "r", 5, 5, 7, "l").two(0, 1, 1), 7);
        CHECKS.due("at the last time of both", both(5, 5, 7, "2r", 9, 5, 7, "2l").two(0, 1, 1), 9);
        CHECKS.due("the last of one, the first of the other", both(5, 5, 7, "2r", 7, 5, 9, "r").two(0, 1, 1), 9);
        CHECKS.due("one later", both(5, 5, 7, "2r", 7, 5, 10, "r").two(0, 1, 1), -2);
        CHECKS.due("the first of many", both(5, 5, 0, "3.", 4, 5, 0, "r2.").two(0, 1, 1), 1);
        CHECKS.due("past each other", both(5, 5, 0, "r", 6, 5, 0, "l").two(0, 1, 1), -2);
        CHECKS.due("at time 0", both(5, 5, 0, "r", 5, 5, 0, "r").two(0, 1, 1), 0);
        CHECKS.due("at time 10095", both(5, 5, 9999, "9(9.)9.6.", 6, 5, 9999, "9(9.)9.5.l").two(0, 1, 1), 10095);
    }

    private static void near() {
        // From (0,2) to the right at 10, from (4,6) up at 8: apart 6, 4, 2, 2, 2 at 10 to 14.
        HeelHounds x = both(0, 2, 10, "8r", 4, 6, 8, "6u");
        CHECKS.due("fewest", x.two(0, 1, 2), 2);
        CHECKS.due("the first such time", x.two(0, 1, 3), 12);
        CHECKS.due("fewest, the other way", x.two(1, 0, 2), 2);
        CHECKS.due("the first such time, the other way", x.two(1, 0, 3), 12);
        HeelHounds corners = both(0, 0, 0, ".", 15, 11, 0, ".");
        CHECKS.due("farthest", corners.two(0, 1, 2), 26);
        CHECKS.due("when", corners.two(0, 1, 3), 0);
        CHECKS.due("MET never", corners.two(0, 1, 1), -2);
        HeelHounds one = both(0, 0, 0, "3r", 9, 9, 3, "r");
        CHECKS.due("but one time", one.two(0, 1, 2), 15);
        CHECKS.due("that time", one.two(0, 1, 3), 3);
        HeelHounds met = both(5, 5, 0, "3.", 7, 5, 0, "2l.");
        CHECKS.due("0 where they met", met.two(0, 1, 2), 0);
        CHECKS.due("when they met", met.two(0, 1, 3), 2);
        HeelHounds last = both(5, 5, 0, "3.", 9, 5, 0, "3l");
        CHECKS.due("at the last time", last.two(0, 1, 2), 1);
        CHECKS.due("when it is the last", last.two(0, 1, 3), 3);
    }

    private static void neverBothThere() {
        HeelHounds x = both(5, 5, 0, "r", 5, 5, 2, "r");
        CHECKS.due("PLACES", x.two(0, 1, 0), 2);
        CHECKS.due("MET", x.two(0, 1, 1), -2);
        CHECKS.due("NEAR", x.two(0, 1, 2), -2);
        CHECKS.due("when", x.two(0, 1, 3), -2);
        CHECKS.due("MET, the other way", x.two(1, 0, 1), -2);
        CHECKS.due("NEAR, the other way", x.two(1, 0, 2), -2);
        CHECKS.due("when, the other way", x.two(1, 0, 3), -2);
        CHECKS.due("TOGETHER", x.together(0, 1, 26), 0);
        for (int what = 0; what < 4; what++) {
            CHECKS.due("the same", x.two(0, 0, what), -1);
            CHECKS.due("no LINE", x.two(0, 2, what), -1);
            CHECKS.due("no LINE ahead", x.two(2, 0, what), -1);
            CHECKS.due("CREATURE -1", x.two(-1, 0, what), -1);
            CHECKS.due("CREATURE 8", x.two(0, 8, what), -1);
        }
        CHECKS.due("what 4", x.two(0, 1, 4), -1);
        CHECKS.due("what -1", x.two(0, 1, -1), -1);
        HeelHounds touching = both(5, 5, 0, "r", 5, 5, 1, "r");
        CHECKS.due("both there at one time", touching.two(0, 1, 3), 1);
    }

    private static void together() {
        HeelHounds x = both(0, 2, 10, "8r", 4, 6, 8, "6u");
        int[] due = {0, 0, 3, 3, 4, 4, 5, 5};
        for (int far = 0; far < due.length; far++) {
            CHECKS.due("within " + far, x.together(0, 1, far), due[far]);
            CHECKS.due("within " + far + ", the other way", x.together(1, 0, far), due[far]);
        }
        CHECKS.due("no more than are there", x.together(0, 1, 26), 5);
        HeelHounds long96 = both(0, 0, 0, "9(9.)9.6.", 0, 0, 0, "9(9.)9.6.");
        CHECKS.due("97 times", long96.together(0, 1, 0), 97);
        HeelHounds one = both(0, 0, 0, "9(9.)9.6.", 0, 0, 96, ".");
        CHECKS.due("one time", one.together(0, 1, 0), 1);
        HeelHounds none = both(0, 0, 0, "9(9.)9.6.", 0, 0, 97, ".");
        CHECKS.due("not gone yet, and gone", none.together(0, 1, 26), 0);
    }

    private static void togetherBounds() {
        HeelHounds x = both(0, 0, 0, ".", 15, 11, 0, ".");
        CHECKS.due("26", x.together(0, 1, 26), 2);
        CHECKS.due("25", x.together(0, 1, 25), 0);
        CHECKS.due("0", x.together(0, 1, 0), 0);
        CHECKS.due("27", x.together(0, 1, 27), -1);
        CHECKS.due("-1", x.together(0, 1, -1), -1);
        CHECKS.due("the same", x.together(1, 1, 5), -1);
        CHECKS.due("no LINE", x.together(0, 7, 5), -1);
        CHECKS.due("no LINE ahead", x.together(7, 0, 5), -1);
        CHECKS.due("CREATURE 8", x.together(0, 8, 5), -1);
        CHECKS.due("CREATURE -1", x.together(-1, 0, 5), -1);
    }

    private static void crowd() {
        HeelHounds x = new HeelHounds();
        for (int c = 0; c < 8; c++) {
            // All come to (9,9): the highest first, one more at each time.
            Checks.line(x, c, 9, 9, 7 - c, "9.");
            int most = x.crowd(7, 1);
            CHECKS.due("how many", most, c + 1);
        }
        CHECKS.due("the PLACE of all", x.crowd(7, 0), Checks.place(9, 9));
        CHECKS.due("one at 0", x.crowd(0, 1), 1);
        CHECKS.due("two at 1", x.crowd(1, 1), 2);
        HeelHounds y = new HeelHounds();
        Checks.line(y, 0, 9, 9, 0, ".");
        Checks.line(y, 1, 8, 9, 0, ".");
        CHECKS.due("the lowest of like ones", y.crowd(0, 0), Checks.place(8, 9));
        Checks.line(y, 2, 15, 8, 0, ".");
        CHECKS.due("a row higher is lower", y.crowd(0, 0), Checks.place(15, 8));
        Checks.line(y, 3, 9, 9, 0, ".");
        CHECKS.due("more go ahead", y.crowd(0, 0), Checks.place(9, 9));
        Checks.line(y, 4, 8, 9, 0, ".");
        CHECKS.due("two and two: the lowest", y.crowd(0, 0), Checks.place(8, 9));
        CHECKS.due("two and two: how many", y.crowd(0, 1), 2);
        crowdsOfFour();
        HeelHounds z = new HeelHounds();
        Checks.line(z, 0, 0, 0, 0, ".");
        CHECKS.due("PLACE 0", z.crowd(0, 0), 0);
        Checks.line(z, 1, 15, 11, 0, ".");
        Checks.line(z, 2, 15, 11, 0, ".");
        CHECKS.due("PLACE 191", z.crowd(0, 0), 191);
    }

    /** Four CREATURES at three PLACES, in all ways. */
    private static void crowdsOfFour() {
        for (int ways = 0; ways < 81; ways++) {
            HeelHounds x = new HeelHounds();
            int[] many = new int[3];
            for (int c = 0, rest = ways; c < 4; c++, rest /= 3) {
                Checks.line(x, c, 5 + rest % 3, 5, 0, ".");
                many[rest % 3]++;
            }
            int fullest = 0;
            for (int i = 1; i < 3; i++) {
                fullest = many[i] > many[fullest] ? i : fullest;
            }
            CHECKS.due("the fullest of " + ways, x.crowd(0, 0), 85 + fullest);
            CHECKS.due("how many of " + ways, x.crowd(0, 1), many[fullest]);
        }
    }

    private static void crowdBounds() {
        HeelHounds x = with(5, 5, 3, "r");
        CHECKS.due("nobody yet", x.crowd(2, 0), -2);
        CHECKS.due("nobody yet: how many", x.crowd(2, 1), 0);
        CHECKS.due("at 3", x.crowd(3, 0), 85);
        CHECKS.due("at 4", x.crowd(4, 0), 86);
        CHECKS.due("nobody any more", x.crowd(5, 0), -2);
        CHECKS.due("time 0", x.crowd(0, 0), -2);
        CHECKS.due("time -1", x.crowd(-1, 0), -1);
        CHECKS.due("time 20000", x.crowd(20000, 1), 0);
        CHECKS.due("time 20001", x.crowd(20001, 1), -1);
        CHECKS.due("what 2", x.crowd(3, 2), -1);
        CHECKS.due("what -1", x.crowd(3, -1), -1);
        Checks.line(x, 0, 5, 5, 9999, "9(9.)9.6.");
        CHECKS.due("time 10095", x.crowd(10095, 1), 1);
        CHECKS.due("time 10096", x.crowd(10096, 1), 0);
    }

    private static void stayedIs(String text, int place, int times) {
        HeelHounds x = with(5, 5, 3, text);
        CHECKS.due("PLACE of " + text, x.stayed(0, 0), place);
        CHECKS.due("times of " + text, x.stayed(0, 1), times);
    }

    private static void stayed() {
        stayedIs("r", 85, 1);
        stayedIs(".", 85, 2);
        stayedIs("r.", 86, 2);
        // As often at two of them: the one it came to first, though it lies behind or was left first.
        stayedIs(".r.", 85, 2);
        stayedIs("l.r", 85, 2);
        stayedIs("l.r.", 85, 3);
        stayedIs("rl", 85, 2);
        stayedIs("r2.l", 86, 3);
        stayedIs("ud.u.d", 85, 4);
        stayedIs("u.d2.u2.", 69, 5);
        HeelHounds x = with(0, 0, 0, "9(9l)9l6l");
        CHECKS.due("off THE LAND all the time", x.stayed(0, 1), 97);
    }

    private static void twiceIs(String text, int want) {
        CHECKS.due("TWICE of " + text, with(5, 5, 0, text).stayed(0, 2), want);
    }

    private static void twice() {
        twiceIs("9.", 0);
        twiceIs("9r", 0);
        twiceIs("r.r.", 0);
        twiceIs("rl", 1);
        twiceIs("r.l", 1);
        twiceIs("rlr", 2);
        twiceIs("9(rl)", 2);
        twiceIs("2r2d2l2u", 1);
        twiceIs("2r2d2l2ur", 2);
        twiceIs("2(2r2d2l2u)", 8);
        CHECKS.due("off THE LAND is not elsewhere", with(0, 0, 0, "lul").stayed(0, 2), 0);
        CHECKS.due("back at the edge", with(0, 0, 0, "rl").stayed(0, 2), 1);
    }

    private static void stayedBounds() {
        HeelHounds x = with(15, 11, 0, ".");
        CHECKS.due("PLACE 191", x.stayed(0, 0), 191);
        CHECKS.due("PLACE 0", with(0, 0, 0, ".").stayed(0, 0), 0);
        CHECKS.due("what 3", x.stayed(0, 3), -1);
        CHECKS.due("what -1", x.stayed(0, -1), -1);
        CHECKS.due("no LINE", x.stayed(1, 0), -1);
        CHECKS.due("CREATURE 8", x.stayed(8, 0), -1);
        CHECKS.due("CREATURE -1", x.stayed(-1, 0), -1);
    }

    private static void unloopedIs(String text, int... places) {
        HeelHounds x = with(5, 5, 0, text);
        CHECKS.due("how many of " + text, x.unlooped(0, 100), places.length);
        for (int i = 0; i < places.length; i++) {
            CHECKS.due("place " + i + " of " + text, x.unlooped(0, i), places[i]);
        }
        CHECKS.due("behind the last of " + text, x.unlooped(0, places.length), -4);
    }

    private static void unlooped() {
        unloopedIs(".", 85);
        unloopedIs("9.", 85);
        unloopedIs("r", 85, 86);
        unloopedIs("rl", 85);
        unloopedIs("rlr", 85, 86);
        unloopedIs("2r2l2d", 85, 101, 117);
        unloopedIs("2r2d2l2u", 85);
        unloopedIs("2r2d2l2ul", 85, 84);
        unloopedIs("3rdlulr", 85, 86, 87);
        // A PLACE that was cut away is new again.
        unloopedIs("2rl2dur", 85, 86, 102, 103);
        unloopedIs("2rl2r", 85, 86, 87, 88);
        unloopedIs("2rldru", 85, 86, 102, 103, 87);
        unloopedIs("2rdluurddl", 85, 86, 70, 71, 87, 103, 102);
        unloopedIs("rdludru", 85, 101, 102, 86);
        unloopedIs("4r2dl3u", 85, 86, 87, 88, 72);
    }

    private static void unloopedBounds() {
        HeelHounds x = with(0, 0, 0, "3(8rd8ld)6rd9.");
        // 3 times 18 STEPS, 6 to the right, one down: no PLACE twice.
        CHECKS.due("so many", x.unlooped(0, 100), 62);
        CHECKS.due("the first", x.unlooped(0, 0), 0);
        CHECKS.due("the last", x.unlooped(0, 61), Checks.place(6, 7));
        CHECKS.due("one behind it", x.unlooped(0, 62), -4);
        CHECKS.due("96", x.unlooped(0, 96), -4);
        CHECKS.due("97", x.unlooped(0, 97), -1);
        CHECKS.due("99", x.unlooped(0, 99), -1);
        CHECKS.due("101", x.unlooped(0, 101), -1);
        CHECKS.due("-1", x.unlooped(0, -1), -1);
        CHECKS.due("no LINE", x.unlooped(1, 0), -1);
        CHECKS.due("no LINE: how many", x.unlooped(1, 100), -1);
        CHECKS.due("CREATURE 8", x.unlooped(8, 100), -1);
        CHECKS.due("CREATURE -1", x.unlooped(-1, 100), -1);
        // 97 PLACES, the most there can be: three times fifteen across and one down, and back.
        HeelHounds most = with(0, 0, 0, "3(9r6rd9l6ld)");
        CHECKS.due("STEPS of the longest", most.lineIs(0, 0), 96);
        CHECKS.due("97 PLACES", most.unlooped(0, 100), 97);
        CHECKS.due("the last of 97", most.unlooped(0, 96), Checks.place(0, 6));
        CHECKS.due("97 is none", most.unlooped(0, 97), -1);
    }

    private static void heldIs(int x, int y, String text, int want) {
        CHECKS.due("(" + x + "," + y + ") " + text, with(x, y, 0, text).heldIn(0), want);
    }

    private static void held() {
        heldIs(5, 5, "2r2d2l2u", 1);
        heldIs(5, 5, "2r2d2lu", 1);
        heldIs(5, 5, "2r2d2l", 0);
        heldIs(5, 5, "4r4d4l4u", 9);
        // A corner is no gap: steps go across and along.
        heldIs(6, 5, "r2d2lu", 1);
        heldIs(5, 5, "r2drul", 0);
        heldIs(6, 5, "rd.d2lu", 1);
        // What lies on the edge of THE LAND is at it.
        heldIs(0, 1, "ru", 0);
        heldIs(1, 0, "2d2r2u", 0);
        heldIs(1, 1, "2r2d2l2u", 1);
        heldIs(0, 0, "2r2d2l2u", 1);
        heldIs(13, 9, "2r2d2l2u", 1);
        heldIs(13, 1, "2d2r", 0);
        heldIs(0, 0, "3r2d3l2u", 2);
        // At each edge alone, open to it and closed along it.
        heldIs(3, 0, "2d2r2u", 0);
        heldIs(3, 0, "2d2r2ul", 1);
        heldIs(15, 3, "2l2d2r", 0);
        heldIs(15, 3, "2l2d2ru", 1);
        heldIs(3, 11, "2u2r2d", 0);
        heldIs(3, 11, "2u2r2dl", 1);
        heldIs(0, 3, "2r2d2l", 0);
        heldIs(0, 3, "2r2d2lu", 1);
        // All along the edge but for one: what is within comes out by it.
        heldIs(0, 0, "9r6r9d2d9l6l9u2u", 140);
        heldIs(0, 0, "9r6r9d2d9l6l9uu", 140);
        heldIs(0, 0, "9r6r9d2d9l6l9u", 0);
        heldIs(5, 5, ".", 0);
        heldIs(0, 0, "9r6r", 0);
        // A PLACE within may be held by more than one ring.
        heldIs(3, 3, "6r6d6l6u2r2d2r2d2l2u", 16);
    }

    private static void heldBounds() {
        HeelHounds x = with(5, 5, 0, "2r2d2l2u");
        CHECKS.due("CREATURE 0", x.heldIn(0), 1);
        CHECKS.due("no LINE", x.heldIn(1), -1);
        CHECKS.due("CREATURE 8", x.heldIn(8), -1);
        CHECKS.due("CREATURE -1", x.heldIn(-1), -1);
        Checks.line(x, 7, 1, 1, 9999, "3r3d3l3u");
        CHECKS.due("CREATURE 7", x.heldIn(7), 4);
        CHECKS.due("CREATURE 0 by its own", x.heldIn(0), 1);
        Checks.land(x, "~0,0:16x12");
        CHECKS.due("on water as well", x.heldIn(0), 1);
    }

    private static void turnsAre(String text, int want) {
        CHECKS.due("TURNS of " + text, with(5, 5, 0, text).lineIs(0, 1), want);
    }

    private static void turns() {
        turnsAre(".", 0);
        turnsAre("9.", 0);
        turnsAre("r", 0);
        turnsAre("9r", 0);
        turnsAre("rd", 1);
        turnsAre("rl", 1);
        turnsAre("r.r", 0);
        turnsAre("r9.d", 1);
        turnsAre(".r", 0);
        turnsAre("r.", 0);
        turnsAre(".r.d.r.", 2);
        turnsAre("8(4(urd))", 95);
        turnsAre("9(rd)", 17);
        // By STEPS: those off THE LAND have a direction, too.
        CHECKS.due("off THE LAND", with(0, 0, 0, "lulu").lineIs(0, 1), 3);
    }

    private static void straightIs(String text, int want) {
        CHECKS.due("straight of " + text, with(5, 5, 0, text).lineIs(0, 2), want);
    }

    private static void straight() {
        straightIs(".", 0);
        straightIs("9.", 0);
        straightIs("r", 1);
        straightIs("9r", 9);
        straightIs("r.r", 2);
        straightIs("2rd3r", 3);
        straightIs("3rd2r", 3);
        straightIs("2r9.2r", 4);
        straightIs("rlrl", 1);
        straightIs("d3(2r)d", 6);
        straightIs("9(9r)9r6r", 96);
        CHECKS.due("off THE LAND", with(0, 0, 0, "5lu").lineIs(0, 2), 5);
    }

    private static void repeatIs(String text, int want) {
        CHECKS.due("repeat of " + text, with(5, 5, 0, text).lineIs(0, 3), want);
    }

    private static void repeat() {
        repeatIs("r", 1);
        repeatIs("9r", 1);
        repeatIs("9.", 1);
        repeatIs("rd", 2);
        repeatIs("3(rd)", 2);
        repeatIs("3(rd)r", 2);
        repeatIs("3(rd)d", 7);
        repeatIs("rrd", 3);
        repeatIs("rdr", 2);
        repeatIs("rdrr", 3);
        repeatIs("r.r.r", 2);
        repeatIs("3(2r2d)2rd", 4);
        repeatIs("8rd", 9);
        repeatIs("8rd8r", 9);
        repeatIs("8(4(urd))", 3);
        repeatIs("9(9r)9r5rd", 96);
        repeatIs("d9(9r)9r5r", 96);
        repeatIs("d9(9r)9r4rd", 95);
    }

    private static void lineIs() {
        HeelHounds x = with(1, 1, 7, "2(r2.r)u");
        int[] due = {9, 1, 4, 9, 7, 6, 16, Checks.place(5, 0)};
        for (int what = 0; what < 8; what++) {
            CHECKS.due("what " + what, x.lineIs(0, what), due[what]);
            CHECKS.due("no LINE", x.lineIs(1, what), -1);
            CHECKS.due("CREATURE 8", x.lineIs(8, what), -1);
            CHECKS.due("CREATURE -1", x.lineIs(-1, what), -1);
        }
        CHECKS.due("what 8", x.lineIs(0, 8), -1);
        CHECKS.due("what -1", x.lineIs(0, -1), -1);
        HeelHounds least = with(0, 0, 0, ".");
        int[] few = {1, 0, 0, 1, 0, 1, 1, 0};
        for (int what = 0; what < 8; what++) {
            CHECKS.due("the least LINE " + what, least.lineIs(0, what), few[what]);
        }
        HeelHounds most = new HeelHounds();
        Checks.line(most, 7, 0, 0, 9999, "3(9r6rd9l6ld)");
        int[] many = {96, 11, 15, 32, 9999, 97, 10095, Checks.place(0, 6)};
        for (int what = 0; what < 8; what++) {
            CHECKS.due("the longest LINE " + what, most.lineIs(7, what), many[what]);
        }
        CHECKS.due("PLACES come to twice", with(5, 5, 0, "2(rl)").lineIs(0, 5), 2);
    }
}
