/** Promises 1 (a new object), 5 (feed), 31 (check), 32 (count). */
public final class TapeTest {
    private static final Checks CHECKS = new Checks("TapeTest");

    public static void main(String[] args) {
        newObject();
        feed();
        check();
        count();
        CHECKS.end();
    }

    private static void newObject() {
        HeelHounds x = new HeelHounds();
        int[] due = {0, 0, 0, 0, 1, 0, 0, 0, 1};
        for (int what = 0; what < due.length; what++) {
            CHECKS.due("count(" + what + ") at first", x.count(what), due[what]);
        }
        for (int h = 0; h < 6; h++) {
            CHECKS.due("houndIs at first", x.houndIs(h, 0), HeelHounds.NONE);
        }
        for (int place = 0; place < 192; place++) {
            CHECKS.due("landAt at first", x.landAt(place % 16, place / 16), 0);
        }
        CHECKS.due("undo at first", x.undo(), false);
        CHECKS.due("where at first", x.where(0, 0), -1);
        CHECKS.due("moments at first", x.moments(1), 0);
        CHECKS.due("NONE", HeelHounds.NONE, -1);
    }

    private static void feed() {
        HeelHounds x = new HeelHounds();
        for (int i = 1; i <= 13; i++) {
            CHECKS.due("feed " + i, x.feed(0, 0, 0, 0, 0), 20 * i);
            CHECKS.due("count(7)", x.count(7), 20 * i);
        }
        CHECKS.due("feed beyond 260", x.feed(0, 0, 0, 0, 0), -1);
        CHECKS.due("count(7) then", x.count(7), 260);
        // The highest byte comes first: "u" then "r", "d", "l", then "...." to the end.
        HeelHounds y = new HeelHounds();
        y.feed('u' << 24 | 'r' << 16 | 'd' << 8 | 'l', 0x2e2e2e2e, 0x2e2e2e2e, 0x2e2e2e2e, 0x2e2e2e2e);
        CHECKS.due("line of twenty", y.line(0, 5, 5, 0, 20), 20);
        CHECKS.due("where(0, 1)", y.where(0, 1), Checks.place(5, 4));
        CHECKS.due("where(0, 2)", y.where(0, 2), Checks.place(6, 4));
        CHECKS.due("where(0, 3)", y.where(0, 3), Checks.place(6, 5));
        CHECKS.due("where(0, 4)", y.where(0, 4), Checks.place(5, 5));
        CHECKS.due("where(0, 20)", y.where(0, 20), Checks.place(5, 5));
        // Texts come behind what is there already, and no byte is taken as less than 0.
        Checks.feed(y, "\u00ff");
        CHECKS.due("line of a byte 255", y.line(0, 5, 5, 0, 20), -1000);
        CHECKS.due("the tape is empty", y.count(7), 0);
    }

    private static void check() {
        HeelHounds x = new HeelHounds();
        x.hound(0, 0, 0);
        x.hound(3, 1, 1);
        x.moments(2);
        Checks.feed(x, "\u0002\u00ff\u00ff\u0002\u00ff\u00ff");
        CHECKS.due("check(7)", x.check(7), -2);
        CHECKS.due("check(-1)", x.check(-1), -2);
        CHECKS.due("the tape stays", x.count(7), 20);
        CHECKS.due("check(6) right", x.check(6), -1);
        CHECKS.due("empty then", x.count(7), 0);
        CHECKS.due("check(1) of an empty tape", x.check(1), -2);
        CHECKS.due("check(0) of an empty tape", x.check(0), -1);
        Checks.feed(x, "\u0002\u00ff\u0000\u0000\u00ff\u00ff");
        CHECKS.due("check(6) wrong of an untold one", x.check(6), 2);
        CHECKS.due("empty then too", x.count(7), 0);
        Checks.feed(x, "\u0002\u00ff\u00ff\u0003");
        CHECKS.due("check(4) wrong", x.check(4), 3);
        Checks.feed(x, "\u0002\u00ff\u00ff\u0003");
        CHECKS.due("check(3) right", x.check(3), -1);
        Checks.feed(x, "x");
        CHECKS.due("check(0)", x.check(0), -1);
        CHECKS.due("check(0) empties too", x.count(7), 0);
    }

    private static void count() {
        HeelHounds x = new HeelHounds();
        x.time(77);
        x.hound(1, 0, 0);
        x.hound(4, 0, 0);
        Checks.line(x, 0, 0, 0, 0, "r");
        Checks.line(x, 7, 0, 0, 0, "r");
        x.fading(6);
        Checks.land(x, "~0,0:1x1;a1,1:1x1=3");
        Checks.law(x, "x(h=4);e1(1=1);r2(1=2)");
        x.seed(65535);
        x.feed(1, 2, 3, 4, 5);
        int[] due = {77, 18, 18, 129, 6, 2, 3, 20, 65535};
        for (int what = 0; what < due.length; what++) {
            CHECKS.due("count(" + what + ")", x.count(what), due[what]);
        }
        CHECKS.due("count(-1)", x.count(-1), -1);
        CHECKS.due("count(9)", x.count(9), -1);
        x.moments(1);
        CHECKS.due("told ones", x.count(1), 18);
        CHECKS.due("RUNNING ones, one is LOST", x.count(2), 2);
        CHECKS.due("THE TIME", x.count(0), 78);
    }
}
