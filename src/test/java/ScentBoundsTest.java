/** SCENT's sentences, promises 3 (fading), 4 (time), 13 (freshest), 22 (cast) and 23 (huntable) at their edges. */
public final class ScentBoundsTest {
    private static final Checks CHECKS = new Checks("ScentBoundsTest");
    private static final Bounds BOUNDS = new Bounds(CHECKS);

    public static void main(String[] args) {
        scents();
        told();
        asked();
        CHECKS.end();
    }

    private static void scents() {
        BOUNDS.test("SCENT lies at a PLACE that is not water", ScentBoundsTest::notInWater);
        BOUNDS.test("of each time at which a CREATURE was there, up to THE TIME", ScentBoundsTest::upToTheTime);
        BOUNDS.test("its AGE: THE TIME less that time; its STRENGTH: 99 less AGE times FADING (if that is 0 or less "
            + "there is none).", ScentBoundsTest::strength);
    }

    private static void told() {
        BOUNDS.test("FADING: true; false: no such number.", ScentBoundsTest::fading);
        BOUNDS.test("THE TIME (no earlier than it is, to 9999): true; false: no such one.", ScentBoundsTest::time);
    }

    private static void asked() {
        BOUNDS.test("FRESHEST at a PLACE now: the latest time of a SCENT there; of which CREATURE (of like ones the "
            + "lowest); how many SCENTS there are.", ScentBoundsTest::freshest);
        BOUNDS.test("FRESHEST at a PLACE, what 0 the time, 1 the CREATURE, 2 how many; -2 (of 0, 1): none",
            ScentBoundsTest::freshestNone);
        BOUNDS.test("CAST of a HOUND: the least number of steps across or along, whichever is more (0 to 15)",
            ScentBoundsTest::castSteps);
        BOUNDS.test("within which a SCENT lies of a time ahead of the TIME HE IS AT", ScentBoundsTest::castTimes);
        BOUNDS.test("CAST of a told HOUND; -2: nowhere; NONE: no such one.", ScentBoundsTest::castOfWhom);
        BOUNDS.test("HUNTABLE: PLACES with a SCENT now (all; of a STRENGTH so much at least).",
            ScentBoundsTest::huntable);
        BOUNDS.test("PLACES with a SCENT of STRENGTH s (1 to 99) at least; NONE: no such number.",
            ScentBoundsTest::huntableBounds);
    }

    /** CREATURE 0 at (5,5) at a time, and at (6,5) one later. */
    private static HeelHounds at(int from) {
        HeelHounds x = new HeelHounds();
        Checks.line(x, 0, 5, 5, from, "r");
        return x;
    }

    private static void notInWater() {
        HeelHounds x = at(0);
        x.time(1);
        x.hound(0, 5, 5);
        CHECKS.due("two PLACES", x.huntable(1), 2);
        Checks.land(x, "~5,5:1x1");
        CHECKS.due("in the water: time", x.freshest(5, 5, 0), -2);
        CHECKS.due("in the water: CREATURE", x.freshest(5, 5, 1), -2);
        CHECKS.due("in the water: how many", x.freshest(5, 5, 2), 0);
        CHECKS.due("beside it", x.freshest(6, 5, 0), 1);
        CHECKS.due("one PLACE", x.huntable(1), 1);
        CHECKS.due("cast", x.cast(0), 1);
        Checks.land(x, "~5,5:1x1;h5,5:1x1=0");
        CHECKS.due("on a FIELD over it", x.freshest(5, 5, 0), 0);
        CHECKS.due("both PLACES", x.huntable(1), 2);
        Checks.land(x, "h5,5:1x1=0;~5,5:1x1");
        CHECKS.due("in water over a FIELD", x.freshest(5, 5, 0), -2);
        Checks.land(x, "~0,0:16x12");
        CHECKS.due("all is water", x.huntable(1), 0);
        Checks.land(x, "a0,0:1x1=0");
        CHECKS.due("what was washed is there again", x.huntable(1), 2);
    }

    private static void upToTheTime() {
        HeelHounds x = at(10);
        x.hound(0, 5, 5);
        x.time(9);
        CHECKS.due("at 9", x.freshest(5, 5, 2), 0);
        CHECKS.due("at 9: huntable", x.huntable(1), 0);
        CHECKS.due("at 9: cast", x.cast(0), -2);
        x.time(10);
        CHECKS.due("at 10", x.freshest(5, 5, 0), 10);
        CHECKS.due("at 10, the next one", x.freshest(6, 5, 0), -2);
        CHECKS.due("at 10: huntable", x.huntable(99), 1);
        CHECKS.due("at 10: cast", x.cast(0), 0);
        x.time(11);
        CHECKS.due("at 11", x.freshest(6, 5, 0), 11);
        CHECKS.due("at 11: huntable", x.huntable(1), 2);
        // Times beyond the last THE TIME are never come to.
        HeelHounds late = at(9999);
        late.time(9999);
        CHECKS.due("9999", late.freshest(5, 5, 0), 9999);
        CHECKS.due("10000", late.freshest(6, 5, 0), -2);
        // Each time is one SCENT: a stay is many.
        HeelHounds still = new HeelHounds();
        Checks.line(still, 0, 5, 5, 0, "9.");
        still.time(4);
        CHECKS.due("five up to 4", still.freshest(5, 5, 2), 5);
        still.time(9);
        CHECKS.due("ten up to 9", still.freshest(5, 5, 2), 10);
        still.time(10);
        CHECKS.due("ten up to 10", still.freshest(5, 5, 2), 10);
    }

    /** For each FADING the last AGE at which there is a SCENT, and the STRENGTH it has then. */
    private static void strength() {
        int[] ages = {9999, 98, 49, 32, 24, 19, 16, 14, 12, 10};
        int[] strengths = {99, 1, 1, 3, 3, 4, 3, 1, 3, 9};
        for (int fading = 0; fading < 10; fading++) {
            HeelHounds x = new HeelHounds();
            Checks.line(x, 0, 5, 5, 0, "r");
            x.fading(fading);
            x.time(ages[fading]);
            CHECKS.due("FADING " + fading + " at " + ages[fading], x.freshest(5, 5, 2), 1);
            boolean isSo = x.huntable(strengths[fading]) == 2;
            CHECKS.due("STRENGTH of both " + strengths[fading], isSo, true);
            if (fading > 0) {
                CHECKS.due("STRENGTH of the older is no more", x.huntable(strengths[fading] + 1), 1);
                x.time(ages[fading] + 1);
                CHECKS.due("FADING " + fading + " at one more", x.freshest(5, 5, 2), 0);
                CHECKS.due("the later one is there still", x.freshest(6, 5, 2), 1);
                x.time(ages[fading] + 2);
                CHECKS.due("not at two more", x.huntable(1), 0);
                x.time(9999);
                CHECKS.due("never more", x.huntable(1), 0);
            }
        }
        HeelHounds fresh = at(0);
        fresh.fading(9);
        CHECKS.due("AGE 0: 99", fresh.huntable(99), 1);
        fresh.time(1);
        CHECKS.due("AGE 1: 90", fresh.huntable(90), 2);
        CHECKS.due("AGE 1: not 91", fresh.huntable(91), 1);
    }

    private static void fading() {
        HeelHounds x = new HeelHounds();
        int[] taken = {0, 9, 5};
        for (int f : taken) {
            CHECKS.due("fading " + f, x.fading(f), true);
            CHECKS.due("FADING", x.count(4), f);
        }
        int[] refused = {-1, 10, Integer.MIN_VALUE, Integer.MAX_VALUE};
        for (int f : refused) {
            CHECKS.due("fading " + f, x.fading(f), false);
            CHECKS.due("FADING stays", x.count(4), 5);
        }
        // It is reckoned anew from the first time on, whenever it is told.
        HeelHounds y = at(0);
        y.fading(9);
        y.time(50);
        CHECKS.due("faded", y.huntable(1), 0);
        y.fading(1);
        CHECKS.due("there again", y.huntable(1), 2);
    }

    private static void time() {
        HeelHounds x = new HeelHounds();
        CHECKS.due("-1", x.time(-1), false);
        CHECKS.due("0", x.time(0), true);
        CHECKS.due("THE TIME 0", x.count(0), 0);
        CHECKS.due("1", x.time(1), true);
        CHECKS.due("0 is earlier", x.time(0), false);
        CHECKS.due("THE TIME stays 1", x.count(0), 1);
        CHECKS.due("1 again", x.time(1), true);
        x.moments(4);
        CHECKS.due("4 is earlier", x.time(4), false);
        CHECKS.due("5 is it", x.time(5), true);
        CHECKS.due("10000", x.time(10000), false);
        CHECKS.due("the most of all", x.time(Integer.MAX_VALUE), false);
        CHECKS.due("the least of all", x.time(Integer.MIN_VALUE), false);
        CHECKS.due("THE TIME stays 5", x.count(0), 5);
        CHECKS.due("9999", x.time(9999), true);
        CHECKS.due("THE TIME 9999", x.count(0), 9999);
        CHECKS.due("9999 again", x.time(9999), true);
        CHECKS.due("9998 is earlier", x.time(9998), false);
        CHECKS.due("10000 still", x.time(10000), false);
        CHECKS.due("no MOMENT went by: X", x.count(8), 1);
    }

    private static void freshest() {
        HeelHounds x = new HeelHounds();
        Checks.line(x, 6, 5, 5, 10, "rl");
        Checks.line(x, 3, 5, 5, 12, ".");
        Checks.line(x, 5, 5, 5, 11, "2.");
        // (5,5): of 6 at 10 and 12, of 3 at 12 and 13, of 5 at 11, 12 and 13.
        int[][] due = {{10, 10, 6, 1}, {11, 11, 5, 2}, {12, 12, 3, 5}, {13, 13, 3, 7}, {14, 13, 3, 7}};
        for (int[] then : due) {
            x.time(then[0]);
            CHECKS.due("time at " + then[0], x.freshest(5, 5, 0), then[1]);
            CHECKS.due("CREATURE at " + then[0], x.freshest(5, 5, 1), then[2]);
            CHECKS.due("how many at " + then[0], x.freshest(5, 5, 2), then[3]);
        }
        CHECKS.due("beside: time", x.freshest(6, 5, 0), 11);
        CHECKS.due("beside: CREATURE", x.freshest(6, 5, 1), 6);
        // CREATURES 0 and 7, and time 0.
        HeelHounds y = new HeelHounds();
        Checks.line(y, 7, 0, 0, 0, "r");
        CHECKS.due("time 0", y.freshest(0, 0, 0), 0);
        CHECKS.due("CREATURE 7", y.freshest(0, 0, 1), 7);
        Checks.line(y, 0, 0, 0, 0, "r");
        CHECKS.due("CREATURE 0", y.freshest(0, 0, 1), 0);
        CHECKS.due("both", y.freshest(0, 0, 2), 2);
    }

    private static void freshestNone() {
        HeelHounds x = at(0);
        CHECKS.due("time", x.freshest(4, 5, 0), -2);
        CHECKS.due("CREATURE", x.freshest(4, 5, 1), -2);
        CHECKS.due("how many", x.freshest(4, 5, 2), 0);
        CHECKS.due("what 3", x.freshest(5, 5, 3), -1);
        CHECKS.due("what -1", x.freshest(5, 5, -1), -1);
        CHECKS.due("what 3 where there is none", x.freshest(4, 5, 3), -1);
        int[][] places = {{-1, 0}, {16, 0}, {0, -1}, {0, 12}};
        for (int[] place : places) {
            for (int what = 0; what < 3; what++) {
                CHECKS.due("no such PLACE", x.freshest(place[0], place[1], what), -1);
            }
        }
        CHECKS.due("the first PLACE", x.freshest(0, 0, 0), -2);
        CHECKS.due("the last PLACE", x.freshest(15, 11, 2), 0);
    }

    private static void castSteps() {
        int[][] scents = {{0, 0}, {15, 11}, {0, 11}, {15, 0}, {7, 5}};
        for (int[] scent : scents) {
            HeelHounds x = new HeelHounds();
            Checks.line(x, 0, scent[0], scent[1], 0, ".");
            for (int place = 0; place < 192; place++) {
                x.hound(0, place % 16, place / 16);
                int far = Math.max(Math.abs(scent[0] - place % 16), Math.abs(scent[1] - place / 16));
                CHECKS.due("cast from " + place, x.cast(0), far);
            }
        }
        // The nearest of many; the way there does not matter.
        HeelHounds y = new HeelHounds();
        Checks.line(y, 0, 0, 0, 0, ".");
        Checks.line(y, 7, 9, 9, 0, ".");
        Checks.land(y, "~8,0:1x12");
        y.hound(0, 5, 3);
        CHECKS.due("five across, or six", y.cast(0), 5);
        y.hound(0, 5, 5);
        CHECKS.due("five, or four", y.cast(0), 4);
    }

    private static void castTimes() {
        HeelHounds x = new HeelHounds();
        Checks.line(x, 0, 5, 5, 0, "2r2.");
        Checks.law(x, "e1(1=1)");
        x.time(5);
        x.hound(0, 7, 5);
        CHECKS.due("at none yet", x.cast(0), 0);
        x.moments(1);
        CHECKS.due("he is at 4", x.houndIs(0, 1), 4);
        CHECKS.due("there are 3 and 2", x.cast(0), 0);
        x.moments(2);
        CHECKS.due("he is at 2", x.houndIs(0, 1), 2);
        CHECKS.due("ahead of 2 is 1", x.cast(0), 1);
        x.moments(2);
        CHECKS.due("he is HOME at 0", x.houndIs(0, 3), 1);
        CHECKS.due("nothing is ahead of 0", x.cast(0), -2);
        // What is of his own time is not ahead of it.
        HeelHounds y = new HeelHounds();
        Checks.line(y, 0, 5, 5, 7, ".");
        Checks.line(y, 1, 9, 5, 7, ".");
        Checks.line(y, 2, 14, 5, 6, ".");
        Checks.law(y, "e1(a=1)");
        y.time(8);
        y.hound(0, 5, 5);
        y.moments(1);
        CHECKS.due("he is at 7", y.houndIs(0, 1), 7);
        CHECKS.due("of 6, not of 7", y.cast(0), 9);
    }

    private static void castOfWhom() {
        HeelHounds x = at(0);
        for (int h = 0; h < 6; h++) {
            CHECKS.due("not told " + h, x.cast(h), -1);
        }
        x.hound(0, 5, 6);
        x.hound(5, 5, 8);
        CHECKS.due("HOUND 0", x.cast(0), 1);
        CHECKS.due("HOUND 5", x.cast(5), 3);
        CHECKS.due("HOUND 1 is not told", x.cast(1), -1);
        CHECKS.due("HOUND -1", x.cast(-1), -1);
        CHECKS.due("HOUND 6", x.cast(6), -1);
        x.moments(9);
        CHECKS.due("one that is LOST", x.cast(0), 1);
        x.time(200);
        CHECKS.due("nowhere", x.cast(0), -2);
        HeelHounds none = new HeelHounds();
        none.hound(0, 0, 0);
        CHECKS.due("nowhere without LINES", none.cast(0), -2);
    }

    private static void huntable() {
        HeelHounds x = new HeelHounds();
        Checks.line(x, 0, 5, 5, 0, "2r2l.");
        // (5,5) at 0, 4 and 5; (6,5) at 1 and 3; (7,5) at 2.
        x.time(5);
        CHECKS.due("each PLACE once", x.huntable(1), 3);
        CHECKS.due("99", x.huntable(99), 1);
        CHECKS.due("97: of 3", x.huntable(97), 2);
        CHECKS.due("98: of 4", x.huntable(98), 1);
        CHECKS.due("96: of 2", x.huntable(96), 3);
        Checks.line(x, 7, 6, 5, 5, "d");
        CHECKS.due("two CREATURES at one", x.huntable(1), 3);
        CHECKS.due("99 of both", x.huntable(99), 2);
        x.time(6);
        CHECKS.due("one PLACE more", x.huntable(1), 4);
    }

    private static void huntableBounds() {
        HeelHounds x = at(0);
        CHECKS.due("0", x.huntable(0), -1);
        CHECKS.due("1", x.huntable(1), 1);
        CHECKS.due("99", x.huntable(99), 1);
        CHECKS.due("100", x.huntable(100), -1);
        CHECKS.due("-1", x.huntable(-1), -1);
        CHECKS.due("the least of all", x.huntable(Integer.MIN_VALUE), -1);
        CHECKS.due("the most of all", x.huntable(Integer.MAX_VALUE), -1);
        HeelHounds none = new HeelHounds();
        CHECKS.due("none at all", none.huntable(1), 0);
        CHECKS.due("none of 100 at all", none.huntable(100), -1);
    }
}
