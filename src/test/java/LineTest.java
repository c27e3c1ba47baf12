/** Promises 7 (line), 12 (where), 18 (stayed), 19 (unlooped), 25 (heldIn), 26 (lineIs). */
public final class LineTest {
    private static final Checks CHECKS = new Checks("LineTest");

    public static void main(String[] args) {
        lines();
        lineFaults();
        lineRefusals();
        where();
        stayed();
        unlooped();
        heldIn();
        lineIs();
        CHECKS.end();
    }

    private static int line(String text) {
        return Checks.line(new HeelHounds(), 0, 0, 0, 0, text);
    }

    private static HeelHounds with(int x, int y, int from, String text) {
        HeelHounds hunt = new HeelHounds();
        Checks.line(hunt, 0, x, y, from, text);
        return hunt;
    }

    private static void lines() {
        CHECKS.due("a dot", line("."), 1);
        CHECKS.due("all of them", line("urdl."), 5);
        CHECKS.due("2 and 9", line("2u9."), 11);
        CHECKS.due("a round", line("3(ur)"), 6);
        CHECKS.due("a round in a round", line("3(u2(rd)l)"), 18);
        CHECKS.due("rounds side by side", line("(u)(r)2((d)(l))"), 6);
        CHECKS.due("96 of them", line("4(3(8r))"), 96);
        CHECKS.due("60 bytes", line(".".repeat(60)), 60);
    }

    private static void lineFaults() {
        CHECKS.due("a blank", line("u r"), -1001);
        CHECKS.due("a 0", line("0u"), -1000);
        CHECKS.due("a 1", line("u1u"), -1001);
        CHECKS.due("a digit at the end", line("u2"), -1002);
        CHECKS.due("a digit and no step", line("2)"), -1001);
        CHECKS.due("a capital", line("U"), -1000);
        CHECKS.due("an open round at the end", line("2(u"), -1003);
        CHECKS.due("an open round in one at the end", line("2(u(r)"), -1006);
        CHECKS.due("an empty round in one", line("u(r())"), -1004);
        CHECKS.due("a third one open", line("u(r2(d3(l)))"), -5007);
        CHECKS.due("a third one that is not open in another", line("((r))(((r"), -5007);
        CHECKS.due("97 by a step", line("9(9r)9r6r."), -6009);
        CHECKS.due("97 by many of a step", line("9(9r)9r.6r"), -6008);
        CHECKS.due("97 by a round", line("r2(6(8r))"), -6001);
        CHECKS.due("a third one behind a digit", line("2(r4(3(8r)))"), -5006);
        CHECKS.due("by an inner one first", line("r(2(6(8r))"), -5005);
        CHECKS.due("by an inner round first", line("9(9(9r9r))"), -6002);
        CHECKS.due("by an outer round", line("9(2(7r))"), -6000);
        CHECKS.due("by a step in a round behind others", line("9(9r)(9r7r)"), -6008);
        CHECKS.due("asked when it ends", line("9(9r)9(9r"), -1009);
        CHECKS.due("ahead of a later fault", line("9(9r)9r7rx"), -6007);
        CHECKS.due("not ahead of an earlier one", line("9(9r)9r7x"), -1008);
    }

    private static void lineRefusals() {
        HeelHounds x = with(3, 3, 9, "2r");
        Checks.feed(x, "u");
        CHECKS.due("creature -1", x.line(-1, 0, 0, 0, 1), -1);
        CHECKS.due("creature 8", x.line(8, 0, 0, 0, 1), -1);
        CHECKS.due("x -1", x.line(0, -1, 0, 0, 1), -1);
        CHECKS.due("x 16", x.line(0, 16, 0, 0, 1), -1);
        CHECKS.due("y -1", x.line(0, 0, -1, 0, 1), -1);
        CHECKS.due("y 12", x.line(0, 0, 12, 0, 1), -1);
        CHECKS.due("time -1", x.line(0, 0, 0, -1, 1), -1);
        CHECKS.due("time 10000", x.line(0, 0, 0, 10000, 1), -1);
        CHECKS.due("n 0", x.line(0, 0, 0, 0, 0), -1);
        CHECKS.due("n -1", x.line(0, 0, 0, 0, -1), -1);
        CHECKS.due("n 21 of 20", x.line(0, 0, 0, 0, 21), -1);
        CHECKS.due("the tape stays", x.count(7), 20);
        CHECKS.due("the last of all", x.line(7, 15, 11, 9999, 1), 1);
        CHECKS.due("the tape is empty", x.count(7), 0);
        CHECKS.due("lines", x.count(3), 129);
        Checks.feed(x, "u".repeat(61));
        CHECKS.due("n 61", x.line(0, 0, 0, 0, 61), -1);
        CHECKS.due("the tape stays", x.count(7), 80);
        CHECKS.due("n 60", x.line(1, 0, 0, 0, 60), 60);
        CHECKS.due("a fault", Checks.line(x, 0, 0, 0, 0, "rr)"), -1002);
        CHECKS.due("the one before stays", x.lineIs(0, 0), 2);
        CHECKS.due("its beginning too", x.where(0, 9), Checks.place(3, 3));
        CHECKS.due("a fault of one without a line", Checks.line(x, 2, 0, 0, 0, ")"), -1000);
        CHECKS.due("it has none", x.count(3), 131);
        CHECKS.due("in place of the one before", Checks.line(x, 0, 1, 1, 2, "d"), 1);
        CHECKS.due("not there any more", x.where(0, 9), -2);
        CHECKS.due("there now", x.where(0, 3), Checks.place(1, 2));
    }

    private static void where() {
        HeelHounds x = with(14, 1, 9999, "2u3r");
        CHECKS.due("ahead", x.where(0, 9998), -2);
        CHECKS.due("beginning", x.where(0, 9999), Checks.place(14, 1));
        CHECKS.due("up", x.where(0, 10000), Checks.place(14, 0));
        CHECKS.due("off the land, it stays", x.where(0, 10001), Checks.place(14, 0));
        CHECKS.due("right", x.where(0, 10002), Checks.place(15, 0));
        CHECKS.due("off the land to the right", x.where(0, 10004), Checks.place(15, 0));
        CHECKS.due("gone", x.where(0, 10005), -2);
        CHECKS.due("the last time asked", x.where(0, 20000), -2);
        CHECKS.due("time 20001", x.where(0, 20001), -1);
        CHECKS.due("time -1", x.where(0, -1), -1);
        CHECKS.due("no line", x.where(1, 0), -1);
        CHECKS.due("creature -1", x.where(-1, 0), -1);
        CHECKS.due("creature 8", x.where(8, 0), -1);
        HeelHounds y = with(0, 11, 0, "dl");
        CHECKS.due("off the land below", y.where(0, 1), Checks.place(0, 11));
        CHECKS.due("off the land to the left", y.where(0, 2), Checks.place(0, 11));
    }

    private static void stayed() {
        HeelHounds x = with(2, 2, 0, "r2.l2.r");
        CHECKS.due("longest, the first of two", x.stayed(0, 0), Checks.place(2, 2));
        CHECKS.due("at four times", x.stayed(0, 1), 4);
        CHECKS.due("both twice", x.stayed(0, 2), 2);
        HeelHounds y = with(0, 0, 0, "3l2r.");
        CHECKS.due("stays are no coming back", y.stayed(0, 2), 0);
        CHECKS.due("off the land counts", y.stayed(0, 1), 4);
        HeelHounds z = with(5, 5, 0, "rlrlrl");
        CHECKS.due("often is counted once", z.stayed(0, 2), 2);
        CHECKS.due("most", z.stayed(0, 1), 4);
        HeelHounds later = with(5, 5, 0, "r.u");
        CHECKS.due("a later one", later.stayed(0, 0), Checks.place(6, 5));
        CHECKS.due("what 3", x.stayed(0, 3), -1);
        CHECKS.due("what -1", x.stayed(0, -1), -1);
        CHECKS.due("no line", x.stayed(1, 0), -1);
        CHECKS.due("creature 8", x.stayed(8, 0), -1);
    }

    private static void unlooped() {
        HeelHounds x = with(5, 5, 0, "2r.d2lu4r");
        // (5,5) (6,5) (7,5) (7,6) (6,6) (5,6), back to (5,5), then (6,5) to (9,5).
        CHECKS.due("how many", x.unlooped(0, 100), 5);
        for (int i = 0; i < 5; i++) {
            CHECKS.due("place " + i, x.unlooped(0, i), Checks.place(5 + i, 5));
        }
        CHECKS.due("beyond", x.unlooped(0, 5), -4);
        CHECKS.due("place 96", x.unlooped(0, 96), -4);
        CHECKS.due("place 97", x.unlooped(0, 97), -1);
        CHECKS.due("place 99", x.unlooped(0, 99), -1);
        CHECKS.due("place 101", x.unlooped(0, 101), -1);
        CHECKS.due("place -1", x.unlooped(0, -1), -1);
        CHECKS.due("no line", x.unlooped(1, 100), -1);
        HeelHounds y = with(5, 5, 0, "4r2dl4u");
        // Down to (9,7), (8,7), then up through (8,5): cut back to there, and on to (8,3).
        CHECKS.due("cut in the midst", y.unlooped(0, 100), 6);
        CHECKS.due("where it is cut", y.unlooped(0, 3), Checks.place(8, 5));
        CHECKS.due("behind the cut", y.unlooped(0, 4), Checks.place(8, 4));
        HeelHounds z = with(5, 5, 0, "2r2l2r");
        CHECKS.due("back and forth", z.unlooped(0, 100), 3);
        HeelHounds whole = with(0, 0, 0, "2(8rd7ld)9r");
        CHECKS.due("without loops", whole.unlooped(0, 100), whole.lineIs(0, 5));
    }

    private static void heldIn() {
        CHECKS.due("a closed square", with(5, 5, 0, "4r4d4l4u").heldIn(0), 9);
        CHECKS.due("open by one", with(5, 5, 0, "4r4d4l2u").heldIn(0), 0);
        CHECKS.due("without one corner", with(6, 5, 0, "r2d2lu").heldIn(0), 1);
        CHECKS.due("closed without coming back", with(5, 5, 0, "4r4d4l3u").heldIn(0), 9);
        CHECKS.due("by the edge of the land", with(2, 0, 0, "2d2l").heldIn(0), 0);
        CHECKS.due("no line", new HeelHounds().heldIn(0), -1);
        CHECKS.due("creature 8", new HeelHounds().heldIn(8), -1);
        HeelHounds x = with(5, 5, 0, "2r2d2l2u");
        Checks.land(x, "~0,0:16x12");
        CHECKS.due("water does not matter", x.heldIn(0), 1);
    }

    private static void lineIs() {
        HeelHounds x = with(1, 1, 7, "2(r2.r)u");
        CHECKS.due("STEPS", x.lineIs(0, 0), 9);
        CHECKS.due("TURNS, stays aside", x.lineIs(0, 1), 1);
        CHECKS.due("straight, stays aside", x.lineIs(0, 2), 4);
        CHECKS.due("no repeat", x.lineIs(0, 3), 9);
        CHECKS.due("time", x.lineIs(0, 4), 7);
        CHECKS.due("PLACES", x.lineIs(0, 5), 6);
        CHECKS.due("last time", x.lineIs(0, 6), 16);
        CHECKS.due("last place", x.lineIs(0, 7), Checks.place(5, 0));
        CHECKS.due("what 8", x.lineIs(0, 8), -1);
        CHECKS.due("what -1", x.lineIs(0, -1), -1);
        CHECKS.due("no line", x.lineIs(1, 0), -1);
        CHECKS.due("repeat", with(0, 0, 0, "3(rd.)").lineIs(0, 3), 3);
        CHECKS.due("repeat, not to the end", with(0, 0, 0, "3(rd.)r").lineIs(0, 3), 3);
        CHECKS.due("repeat of one", with(0, 0, 0, "9r").lineIs(0, 3), 1);
        CHECKS.due("repeat but for the last", with(0, 0, 0, "3(rd).").lineIs(0, 3), 7);
        HeelHounds still = with(0, 0, 0, "5.");
        CHECKS.due("no TURNS", still.lineIs(0, 1), 0);
        CHECKS.due("no straight", still.lineIs(0, 2), 0);
        CHECKS.due("one PLACE", still.lineIs(0, 5), 1);
        HeelHounds edge = with(0, 0, 0, "3l2u");
        CHECKS.due("TURNS of steps off the land", edge.lineIs(0, 1), 1);
        CHECKS.due("straight off the land", edge.lineIs(0, 2), 3);
        CHECKS.due("back is a turn", with(5, 5, 0, "rlrl").lineIs(0, 1), 3);
    }
}
