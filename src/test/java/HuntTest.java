/**
 * Promises 2 (hound), 3 (fading), 4 (time), 9 (moments), 10 (tried), 11 (houndIs), 13 (freshest),
 * 14 (firstHome), 22 (cast), 23 (huntable), 28 (seed), 29 (keep), 30 (undo).
 */
public final class HuntTest {
    private static final Checks CHECKS = new Checks("HuntTest");

    public static void main(String[] args) {
        hound();
        fadingAndTime();
        moments();
        likes();
        likeOnes();
        draws();
        giveUp();
        lastTime();
        tried();
        freshest();
        firstHome();
        cast();
        huntable();
        seedKeepUndo();
        CHECKS.end();
    }

    private static void hound() {
        HeelHounds x = new HeelHounds();
        CHECKS.due("hound 0", x.hound(0, 0, 0), true);
        CHECKS.due("hound 5", x.hound(5, 15, 11), true);
        CHECKS.due("hound 6", x.hound(6, 0, 0), false);
        CHECKS.due("hound -1", x.hound(-1, 0, 0), false);
        CHECKS.due("x 16", x.hound(1, 16, 0), false);
        CHECKS.due("x -1", x.hound(1, -1, 0), false);
        CHECKS.due("y 12", x.hound(1, 0, 12), false);
        CHECKS.due("y -1", x.hound(1, 0, -1), false);
        CHECKS.due("told ones", x.count(1), 33);
        CHECKS.due("PLACE", x.houndIs(5, 0), 191);
        CHECKS.due("TIME HE IS AT", x.houndIs(5, 1), 10000);
        CHECKS.due("FAULTS", x.houndIs(5, 2), 0);
        CHECKS.due("RUNNING", x.houndIs(5, 3), 0);
        CHECKS.due("what 4", x.houndIs(5, 4), -1);
        CHECKS.due("what -1", x.houndIs(5, -1), -1);
        CHECKS.due("not told", x.houndIs(1, 0), -1);
        CHECKS.due("hound 6 is", x.houndIs(6, 0), -1);
        CHECKS.due("hound -1 is", x.houndIs(-1, 0), -1);
        x.moments(9);
        CHECKS.due("LOST", x.houndIs(5, 3), 2);
        CHECKS.due("nine FAULTS", x.houndIs(5, 2), 9);
        CHECKS.due("anew", x.hound(5, 3, 4), true);
        CHECKS.due("PLACE anew", x.houndIs(5, 0), Checks.place(3, 4));
        CHECKS.due("FAULTS anew", x.houndIs(5, 2), 0);
        CHECKS.due("RUNNING anew", x.houndIs(5, 3), 0);
    }

    private static void fadingAndTime() {
        HeelHounds x = new HeelHounds();
        CHECKS.due("fading -1", x.fading(-1), false);
        CHECKS.due("fading 10", x.fading(10), false);
        CHECKS.due("it is 1", x.count(4), 1);
        CHECKS.due("fading 9", x.fading(9), true);
        CHECKS.due("it is 9", x.count(4), 9);
        CHECKS.due("fading 0", x.fading(0), true);
        CHECKS.due("it is 0", x.count(4), 0);
        CHECKS.due("time -1", x.time(-1), false);
        CHECKS.due("time 0", x.time(0), true);
        CHECKS.due("time 50", x.time(50), true);
        CHECKS.due("time 49", x.time(49), false);
        CHECKS.due("time 50 again", x.time(50), true);
        CHECKS.due("time 10000", x.time(10000), false);
        CHECKS.due("it is 50", x.count(0), 50);
        CHECKS.due("time 9999", x.time(9999), true);
        CHECKS.due("it is 9999", x.count(0), 9999);
    }

    /** CREATURE 0 from (2,2) at 10, four to the right and two down. */
    private static HeelHounds hunt(String law) {
        HeelHounds x = new HeelHounds();
        Checks.line(x, 0, 2, 2, 10, "4r2d");
        x.time(20);
        Checks.law(x, law);
        return x;
    }

    private static void houndIs(HeelHounds x, int h, int place, int time, int faults, int state) {
        CHECKS.due("PLACE of " + h, x.houndIs(h, 0), place);
        CHECKS.due("TIME of " + h, x.houndIs(h, 1), time);
        CHECKS.due("FAULTS of " + h, x.houndIs(h, 2), faults);
        CHECKS.due("state of " + h, x.houndIs(h, 3), state);
    }

    private static void moments() {
        HeelHounds x = hunt("e1(1=1)");
        x.hound(0, 6, 4);
        x.hound(1, 15, 11);
        x.hound(3, 3, 3);
        CHECKS.due("moments(0)", x.moments(0), -1);
        CHECKS.due("moments(-1)", x.moments(-1), -1);
        CHECKS.due("moments(101)", x.moments(101), -1);
        CHECKS.due("THE TIME stays", x.count(0), 20);
        CHECKS.due("X stays", x.count(8), 1);
        CHECKS.due("one moment", x.moments(1), 3);
        CHECKS.due("THE TIME", x.count(0), 21);
        houndIs(x, 0, Checks.place(6, 4), 16, 0, 0);
        houndIs(x, 1, Checks.place(15, 11), 10000, 1, 0);
        houndIs(x, 3, Checks.place(3, 2), 11, 0, 0);
        CHECKS.due("two moments", x.moments(1), 2);
        houndIs(x, 0, Checks.place(6, 3), 15, 0, 0);
        houndIs(x, 3, Checks.place(2, 2), 10, 0, 1);
        CHECKS.due("one is HOME", x.count(2), 3);
        CHECKS.due("to the end", x.moments(100), 0);
        CHECKS.due("THE TIME then", x.count(0), 122);
        houndIs(x, 0, Checks.place(2, 2), 10, 0, 1);
        houndIs(x, 1, Checks.place(15, 11), 10000, 9, 2);
        CHECKS.due("none is told", new HeelHounds().moments(100), 0);
    }

    private static void likes() {
        // The oldest within reach is liked most.
        HeelHounds x = hunt("ea(1=1)");
        x.hound(0, 6, 2);
        x.moments(1);
        houndIs(x, 0, Checks.place(5, 2), 13, 0, 0);
        x.moments(1);
        houndIs(x, 0, Checks.place(4, 2), 12, 0, 0);
        // What he likes not at all he does not go to.
        HeelHounds y = hunt("e0(a<7);e5(1=1)");
        y.hound(0, 6, 2);
        y.moments(1);
        houndIs(y, 0, Checks.place(5, 2), 13, 0, 0);
        // SCENT that is not yet laid, that has faded or lies under water is none.
        HeelHounds early = hunt("e1(1=1)");
        Checks.line(early, 1, 9, 9, 20, "2.");
        early.hound(0, 9, 9);
        early.moments(1);
        houndIs(early, 0, Checks.place(9, 9), 20, 0, 1);
        HeelHounds faded = hunt("e1(1=1)");
        faded.fading(9);
        faded.time(26);
        faded.hound(0, 6, 4);
        CHECKS.due("STRENGTH 9", faded.tried(1, 30), 0);
        CHECKS.due("STRENGTH 0", faded.tried(2, 30), 1);
        HeelHounds wet = hunt("e1(1=1)");
        Checks.land(wet, "~6,3:1x1");
        wet.hound(0, 6, 4);
        wet.moments(9);
        houndIs(wet, 0, Checks.place(6, 4), 16, 8, 0);
        CHECKS.due("LOST at the ninth", wet.moments(1), 0);
        houndIs(wet, 0, Checks.place(6, 4), 16, 9, 2);
        // A time that is not ahead of his is none for him.
        HeelHounds back = hunt("e1(1=1)");
        Checks.line(back, 0, 2, 2, 10, "4.");
        back.hound(0, 2, 2);
        back.moments(1);
        houndIs(back, 0, Checks.place(2, 2), 14, 0, 0);
        back.moments(3);
        houndIs(back, 0, Checks.place(2, 2), 11, 0, 0);
        back.moments(1);
        houndIs(back, 0, Checks.place(2, 2), 10, 0, 1);
    }

    private static void likeOnes() {
        HeelHounds x = new HeelHounds();
        x.time(20);
        Checks.law(x, "e1(1=1)");
        x.hound(0, 5, 5);
        int[] xs = {4, 5, 6, 5, 5};
        int[] ys = {5, 6, 5, 4, 5};
        int[] places = {84, 101, 86, 69, 85};
        // Of one time, left, down, right, up and own ones: each goes ahead of those told before.
        for (int c = 0; c < 5; c++) {
            Checks.line(x, c, xs[c], ys[c], 5, ".");
            CHECKS.due("like ones by ways", x.tried(1, 10), places[c]);
            CHECKS.due("the latest of them", x.tried(1, 20), 6);
        }
        Checks.line(x, 5, 4, 5, 6, ".");
        CHECKS.due("the latest time goes ahead of ways", x.tried(1, 10), 84);
        // Of one time and PLACE the lowest CREATURE: only 6 began at that time.
        Checks.line(x, 6, 5, 4, 9, ".");
        Checks.line(x, 7, 5, 4, 8, "2.");
        CHECKS.due("at 10", x.tried(1, 20), 10);
        CHECKS.due("then 9, of CREATURE 6: HOME", x.tried(2, 1), 1);
        Checks.line(x, 6, 5, 4, 8, "2.");
        Checks.line(x, 7, 5, 4, 9, ".");
        CHECKS.due("then 9, of CREATURE 6: not HOME", x.tried(2, 1), 0);
        Checks.law(x, "e1+c(1=1)");
        CHECKS.due("liked more: CREATURE 7, HOME", x.tried(2, 1), 1);
        byEdges();
    }

    private static void byEdges() {
        // The last PLACES of THE LAND are beside him; off it there is nothing.
        HeelHounds x = new HeelHounds();
        x.time(20);
        Checks.law(x, "e1(1=1)");
        x.hound(0, 14, 1);
        Checks.line(x, 0, 15, 1, 5, ".");
        CHECKS.due("the right edge", x.tried(1, 10), Checks.place(15, 1));
        x.hound(0, 1, 10);
        Checks.line(x, 0, 0, 10, 5, ".");
        CHECKS.due("the left edge", x.tried(1, 10), Checks.place(0, 10));
        Checks.line(x, 0, 1, 11, 5, ".");
        CHECKS.due("the lowest row", x.tried(1, 10), Checks.place(1, 11));
        x.hound(0, 7, 1);
        Checks.line(x, 0, 7, 0, 5, ".");
        CHECKS.due("the highest row", x.tried(1, 10), Checks.place(7, 0));
        HeelHounds y = new HeelHounds();
        y.time(20);
        Checks.law(y, "e1(1=1)");
        Checks.line(y, 0, 15, 4, 5, ".");
        y.hound(0, 0, 5);
        CHECKS.due("across the left edge", y.tried(1, 30), 1);
        y.hound(0, 0, 4);
        CHECKS.due("along it", y.tried(1, 30), 1);
        Checks.line(y, 0, 0, 5, 5, ".");
        y.hound(0, 15, 4);
        CHECKS.due("across the right edge", y.tried(1, 30), 1);
    }

    private static void draws() {
        // The first DRAWS are 2 (of 39022), 7 (of 61087), 6 (of 20196).
        HeelHounds x = hunt("r3(1=1);e1(1=1)");
        x.hound(0, 6, 4);
        int drawn = 1;
        int faults = 0;
        int time = 17;
        for (int i = 0; i < 6; i++) {
            drawn = (25173 * drawn + 13849) % 65536;
            if (drawn % 10 < 3) {
                faults++;
            } else {
                time--;
            }
            x.moments(1);
            CHECKS.due("X", x.count(8), drawn);
            CHECKS.due("FAULTS by DRAWS", x.houndIs(0, 2), faults);
            CHECKS.due("TIME by DRAWS", x.houndIs(0, 1), time == 17 ? 10000 : time);
        }
        // A DRAW is below r, not at it.
        HeelHounds y = hunt("r2(1=1);e1(1=1)");
        y.hound(0, 6, 4);
        CHECKS.due("DRAW 2 is not below 2", y.tried(1, 30), 0);
        // Each RUNNING HOUND draws, by numbers.
        HeelHounds z = hunt("r3(1=1);e1(1=1)");
        z.hound(2, 6, 4);
        z.hound(4, 6, 4);
        z.moments(1);
        CHECKS.due("the first draws 2", z.houndIs(2, 2), 1);
        CHECKS.due("the second draws 7", z.houndIs(4, 2), 0);
        CHECKS.due("X behind two DRAWS", z.count(8), 61087);
        // Without an r they draw, too.
        HeelHounds none = new HeelHounds();
        none.hound(0, 0, 0);
        none.moments(10);
        CHECKS.due("nine DRAWS till LOST", none.count(8), Draws.behind(1, 9));
    }

    private static void giveUp() {
        HeelHounds x = hunt("x(h=1);x(t=22);e1(1=1)");
        x.hound(0, 6, 4);
        x.hound(1, 6, 4);
        CHECKS.due("one gives up", x.moments(1), 1);
        houndIs(x, 1, Checks.place(6, 4), 10000, 0, 2);
        CHECKS.due("who gives up does not draw", x.count(8), Draws.behind(1, 1));
        x.moments(2);
        houndIs(x, 0, Checks.place(6, 3), 15, 0, 2);
        // As it is then: HOUND 1 sees where HOUND 0 has gone to in the same MOMENT.
        HeelHounds y = hunt("e1(n=0)");
        y.hound(0, 6, 5);
        y.hound(1, 5, 4);
        y.moments(1);
        houndIs(y, 0, Checks.place(6, 4), 16, 0, 0);
        houndIs(y, 1, Checks.place(5, 4), 10000, 1, 0);
        // LOST and HOME ones are at their PLACES still.
        HeelHounds z = hunt("x(h=0);e1(n=0)");
        z.hound(0, 6, 4);
        z.hound(1, 6, 5);
        z.moments(1);
        houndIs(z, 1, Checks.place(6, 5), 10000, 1, 0);
    }

    private static void lastTime() {
        HeelHounds x = new HeelHounds();
        Checks.law(x, "e1(1=1)");
        Checks.line(x, 0, 0, 0, 9990, "9r");
        x.hound(0, 9, 0);
        x.time(9998);
        CHECKS.due("one MOMENT can", x.moments(100), 1);
        CHECKS.due("THE TIME 9999", x.count(0), 9999);
        CHECKS.due("one DRAW", x.count(8), 39022);
        houndIs(x, 0, Checks.place(8, 0), 9998, 0, 0);
        CHECKS.due("none can", x.moments(1), 1);
        houndIs(x, 0, Checks.place(8, 0), 9998, 0, 0);
        CHECKS.due("X stays", x.count(8), 39022);
        CHECKS.due("none is tried", x.tried(100, 20), 9998);
        CHECKS.due("none comes HOME", x.firstHome(100, 0), -2);
    }

    private static void tried() {
        HeelHounds x = hunt("x(h=5&t=21);e1(1=1)");
        x.hound(0, 2, 2);
        x.hound(2, 6, 4);
        x.hound(5, 9, 9);
        CHECKS.due("RUNNING", x.tried(2, 0), 4);
        CHECKS.due("HOME", x.tried(2, 1), 1);
        CHECKS.due("LOST", x.tried(2, 2), 32);
        CHECKS.due("PLACE", x.tried(2, 12), Checks.place(6, 3));
        CHECKS.due("TIME", x.tried(2, 22), 15);
        CHECKS.due("FAULTS", x.tried(2, 35), 1);
        int[] none = {-1, 3, 9, 11, 16, 17, 19, 21, 26, 29, 31, 33, 36, 40, 42, 1000};
        for (int what : none) {
            CHECKS.due("what " + what, x.tried(2, what), -1);
        }
        CHECKS.due("n 0", x.tried(0, 0), -1);
        CHECKS.due("n 101", x.tried(101, 0), -1);
        CHECKS.due("n 100", x.tried(100, 1), 5);
        CHECKS.due("nothing is changed: TIME", x.count(0), 20);
        CHECKS.due("nothing is changed: X", x.count(8), 1);
        houndIs(x, 2, Checks.place(6, 4), 10000, 0, 0);
        x.moments(2);
        houndIs(x, 2, Checks.place(6, 3), 15, 0, 0);
    }

    private static void freshest() {
        HeelHounds x = new HeelHounds();
        Checks.line(x, 2, 5, 5, 10, "2.rl");
        Checks.line(x, 4, 5, 5, 14, ".");
        // (5,5): of 2 at 10, 11, 12, 14; of 4 at 14, 15.
        CHECKS.due("none yet", x.freshest(5, 5, 0), -2);
        x.time(11);
        CHECKS.due("time", x.freshest(5, 5, 0), 11);
        CHECKS.due("how many", x.freshest(5, 5, 2), 2);
        x.time(14);
        CHECKS.due("time 14", x.freshest(5, 5, 0), 14);
        CHECKS.due("the lowest of both", x.freshest(5, 5, 1), 2);
        CHECKS.due("how many by 14", x.freshest(5, 5, 2), 5);
        x.time(20);
        CHECKS.due("time 15", x.freshest(5, 5, 0), 15);
        CHECKS.due("of CREATURE 4", x.freshest(5, 5, 1), 4);
        CHECKS.due("how many in all", x.freshest(5, 5, 2), 6);
        CHECKS.due("beside", x.freshest(6, 5, 0), 13);
        CHECKS.due("elsewhere", x.freshest(7, 5, 1), -2);
        x.fading(9);
        // 10 has AGE 10 and STRENGTH 9.
        CHECKS.due("STRENGTH 9 is there", x.freshest(5, 5, 2), 6);
        x.time(21);
        CHECKS.due("STRENGTH 0 is not", x.freshest(5, 5, 2), 5);
        x.fading(0);
        x.time(9999);
        CHECKS.due("without FADING all stays", x.freshest(5, 5, 2), 6);
        Checks.land(x, "~5,5:1x1");
        CHECKS.due("water: time", x.freshest(5, 5, 0), -2);
        CHECKS.due("water: CREATURE", x.freshest(5, 5, 1), -2);
        CHECKS.due("water: how many", x.freshest(5, 5, 2), 0);
        Checks.land(x, "~5,5:1x1;a5,5:1x1=1");
        CHECKS.due("a field over water", x.freshest(5, 5, 2), 6);
        CHECKS.due("x 16", x.freshest(16, 0, 0), -1);
        CHECKS.due("y -1", x.freshest(0, -1, 0), -1);
        CHECKS.due("what 3", x.freshest(5, 5, 3), -1);
        CHECKS.due("what -1", x.freshest(5, 5, -1), -1);
    }

    private static void firstHome() {
        HeelHounds x = hunt("e1(1=1)");
        x.hound(4, 4, 2);
        x.hound(5, 5, 1);
        x.hound(1, 9, 9);
        // Both go to 13 at (5,2) first, then to 12, 11 and 10.
        CHECKS.due("behind how many", x.firstHome(100, 0), 4);
        CHECKS.due("who", x.firstHome(100, 1), 4);
        CHECKS.due("in just so many", x.firstHome(4, 0), 4);
        CHECKS.due("in fewer: none", x.firstHome(3, 0), -2);
        CHECKS.due("in fewer: nobody", x.firstHome(3, 1), -2);
        CHECKS.due("nothing is changed", x.count(0), 20);
        x.hound(0, 2, 2);
        // HOUND 0 goes to 11 at (3,2) and then HOME.
        CHECKS.due("sooner", x.firstHome(100, 0), 2);
        CHECKS.due("sooner: who", x.firstHome(100, 1), 0);
        x.moments(4);
        CHECKS.due("one is", x.firstHome(1, 0), 0);
        CHECKS.due("who is, the lowest", x.firstHome(1, 1), 0);
        CHECKS.due("n 0", x.firstHome(0, 0), -1);
        CHECKS.due("n 101", x.firstHome(101, 0), -1);
        CHECKS.due("what 2", x.firstHome(1, 2), -1);
        CHECKS.due("what -1", x.firstHome(1, -1), -1);
        CHECKS.due("no HOUNDS", new HeelHounds().firstHome(100, 1), -2);
    }

    private static void cast() {
        HeelHounds x = hunt("e1(1=1)");
        x.hound(0, 12, 4);
        CHECKS.due("across", x.cast(0), 6);
        x.hound(0, 8, 11);
        CHECKS.due("along is more", x.cast(0), 7);
        x.hound(0, 6, 4);
        CHECKS.due("own place", x.cast(0), 0);
        x.moments(1);
        CHECKS.due("of a time ahead of his", x.cast(0), 1);
        Checks.land(x, "~6,2:1x2");
        CHECKS.due("not under water", x.cast(0), 2);
        Checks.land(x, "~0,0:16x12");
        CHECKS.due("nowhere", x.cast(0), -2);
        CHECKS.due("not told", x.cast(1), -1);
        CHECKS.due("hound 6", x.cast(6), -1);
        CHECKS.due("hound -1", x.cast(-1), -1);
        HeelHounds y = new HeelHounds();
        Checks.line(y, 0, 0, 0, 0, ".");
        y.hound(3, 15, 11);
        CHECKS.due("farthest of all", y.cast(3), 15);
        y.time(98);
        CHECKS.due("STRENGTH 1 and 2", y.cast(3), 15);
        y.time(100);
        CHECKS.due("faded", y.cast(3), -2);
    }

    private static void huntable() {
        HeelHounds x = hunt("e1(1=1)");
        // Seven PLACES of AGES 10 to 4.
        CHECKS.due("all", x.huntable(1), 7);
        CHECKS.due("95", x.huntable(95), 1);
        CHECKS.due("94", x.huntable(94), 2);
        CHECKS.due("96", x.huntable(96), 0);
        CHECKS.due("89", x.huntable(89), 7);
        CHECKS.due("90", x.huntable(90), 6);
        CHECKS.due("0", x.huntable(0), -1);
        CHECKS.due("100", x.huntable(100), -1);
        CHECKS.due("-1", x.huntable(-1), -1);
        Checks.line(x, 1, 6, 4, 20, "3l");
        CHECKS.due("one that is two's, and none to come", x.huntable(1), 7);
        CHECKS.due("99", x.huntable(99), 1);
        x.fading(0);
        CHECKS.due("all of 99", x.huntable(99), 7);
        Checks.land(x, "~6,4:1x1");
        CHECKS.due("not under water", x.huntable(1), 6);
    }

    private static void seedKeepUndo() {
        HeelHounds x = hunt("r5(1=1);e1(1=1)");
        CHECKS.due("seed -1", x.seed(-1), false);
        CHECKS.due("seed 65536", x.seed(65536), false);
        CHECKS.due("X stays", x.count(8), 1);
        CHECKS.due("seed 0", x.seed(0), true);
        CHECKS.due("X 0", x.count(8), 0);
        CHECKS.due("seed 65535", x.seed(65535), true);
        x.hound(0, 6, 4);
        x.moments(1);
        CHECKS.due("X then", x.count(8), Draws.behind(65535, 1));
        CHECKS.due("undo without keep", x.undo(), false);
        x.seed(7);
        CHECKS.due("keep", x.keep(), 21);
        int place = x.houndIs(0, 0);
        int time = x.houndIs(0, 1);
        int faults = x.houndIs(0, 2);
        x.hound(1, 0, 0);
        x.moments(50);
        x.fading(3);
        Checks.line(x, 1, 0, 0, 0, "r");
        CHECKS.due("undo", x.undo(), true);
        CHECKS.due("THE TIME", x.count(0), 21);
        CHECKS.due("X", x.count(8), 7);
        CHECKS.due("told ones", x.count(1), 1);
        CHECKS.due("RUNNING ones", x.count(2), 1);
        houndIs(x, 0, place, time, faults, 0);
        CHECKS.due("FADING is not kept", x.count(4), 3);
        CHECKS.due("LINES are not kept", x.count(3), 3);
        CHECKS.due("THE LAW is not kept", x.count(6), 2);
        x.moments(3);
        CHECKS.due("undo again", x.undo(), true);
        CHECKS.due("THE TIME again", x.count(0), 21);
        x.time(30);
        CHECKS.due("keep later", x.keep(), 30);
        x.time(40);
        x.undo();
        CHECKS.due("as KEPT last", x.count(0), 30);
    }
}
