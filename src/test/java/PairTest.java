/** Promises 15 (two), 16 (together), 17 (crowd), 24 (couldBe). */
public final class PairTest {
    private static final Checks CHECKS = new Checks("PairTest");

    public static void main(String[] args) {
        two();
        together();
        crowd();
        couldBe();
        CHECKS.end();
    }

    /** CREATURE 0 goes right along Y 2 from (0,2) at 10, CREATURE 1 up along X 4 from (4,6) at 8. */
    private static HeelHounds crossing() {
        HeelHounds x = new HeelHounds();
        Checks.line(x, 0, 0, 2, 10, "8r");
        Checks.line(x, 1, 4, 6, 8, "6u");
        return x;
    }

    private static void two() {
        HeelHounds x = crossing();
        CHECKS.due("one PLACE", x.two(0, 1, 0), 1);
        CHECKS.due("MET never", x.two(0, 1, 1), -2);
        // Both are there from 10 to 14: apart 4+2, 3+1, 2+0, 1+1, 0+2.
        CHECKS.due("NEAR", x.two(0, 1, 2), 2);
        CHECKS.due("first such time", x.two(0, 1, 3), 12);
        CHECKS.due("the other way round", x.two(1, 0, 3), 12);
        Checks.line(x, 2, 0, 2, 10, "2.8r");
        CHECKS.due("PLACES are counted once", x.two(0, 2, 0), 9);
        CHECKS.due("MET at once", x.two(0, 2, 1), 10);
        CHECKS.due("NEAR 0", x.two(0, 2, 2), 0);
        CHECKS.due("when", x.two(0, 2, 3), 10);
        Checks.line(x, 3, 0, 2, 19, "r");
        CHECKS.due("crossed at other times", x.two(0, 3, 0), 2);
        CHECKS.due("never both there: MET", x.two(0, 3, 1), -2);
        CHECKS.due("never both there: NEAR", x.two(0, 3, 2), -2);
        CHECKS.due("never both there: when", x.two(0, 3, 3), -2);
        Checks.line(x, 4, 8, 2, 18, "r");
        CHECKS.due("MET at the last time", x.two(0, 4, 1), 18);
        CHECKS.due("the same", x.two(0, 0, 0), -1);
        CHECKS.due("no line", x.two(0, 5, 0), -1);
        CHECKS.due("no line ahead", x.two(5, 0, 0), -1);
        CHECKS.due("creature 8", x.two(0, 8, 0), -1);
        CHECKS.due("creature -1", x.two(-1, 0, 0), -1);
        CHECKS.due("what 4", x.two(0, 1, 4), -1);
        CHECKS.due("what -1", x.two(0, 1, -1), -1);
    }

    private static void together() {
        HeelHounds x = crossing();
        int[] due = {0, 0, 3, 3, 4, 4, 5, 5};
        for (int far = 0; far < due.length; far++) {
            CHECKS.due("together " + far, x.together(0, 1, far), due[far]);
        }
        CHECKS.due("together 26", x.together(1, 0, 26), 5);
        CHECKS.due("far 27", x.together(0, 1, 27), -1);
        CHECKS.due("far -1", x.together(0, 1, -1), -1);
        CHECKS.due("the same", x.together(1, 1, 0), -1);
        CHECKS.due("no line", x.together(0, 5, 0), -1);
        CHECKS.due("creature 8", x.together(8, 0, 0), -1);
        Checks.line(x, 2, 15, 11, 10, "r");
        Checks.line(x, 3, 0, 0, 10, "l");
        CHECKS.due("farthest apart", x.together(2, 3, 25), 0);
        CHECKS.due("farthest apart of all", x.together(2, 3, 26), 2);
    }

    private static void crowd() {
        HeelHounds x = new HeelHounds();
        CHECKS.due("nobody", x.crowd(5, 0), -2);
        CHECKS.due("nobody: how many", x.crowd(5, 1), 0);
        Checks.line(x, 5, 9, 9, 5, "2.");
        CHECKS.due("one", x.crowd(5, 0), Checks.place(9, 9));
        Checks.line(x, 6, 9, 8, 5, "d.");
        CHECKS.due("the lowest of like ones", x.crowd(5, 0), Checks.place(9, 8));
        CHECKS.due("how many of them", x.crowd(5, 1), 1);
        CHECKS.due("two at one", x.crowd(6, 0), Checks.place(9, 9));
        CHECKS.due("how many at it", x.crowd(6, 1), 2);
        CHECKS.due("not there any more", x.crowd(8, 0), -2);
        CHECKS.due("not there any more: how many", x.crowd(8, 1), 0);
        CHECKS.due("time 20000", x.crowd(20000, 1), 0);
        CHECKS.due("time 20001", x.crowd(20001, 1), -1);
        CHECKS.due("time -1", x.crowd(-1, 0), -1);
        CHECKS.due("what 2", x.crowd(5, 2), -1);
        CHECKS.due("what -1", x.crowd(5, -1), -1);
    }

    private static void couldBe() {
        HeelHounds x = crossing();
        Checks.line(x, 7, 4, 2, 300, "2.");
        Checks.feedFinds(x, Checks.place(4, 2), 14);
        CHECKS.due("n 0", x.couldBe(0, 0), -1);
        CHECKS.due("n 11", x.couldBe(11, 0), -1);
        CHECKS.due("off -1", x.couldBe(1, -1), -1);
        CHECKS.due("off 100", x.couldBe(1, 100), -1);
        CHECKS.due("n 7 of 20 bytes", x.couldBe(7, 0), -1);
        CHECKS.due("the tape stays", x.count(7), 20);
        CHECKS.due("one find", x.couldBe(1, 0), 1);
        CHECKS.due("empty then", x.count(7), 0);
        Checks.feedFinds(x, Checks.place(4, 2), 13);
        CHECKS.due("one off", x.couldBe(1, 1), 3);
        Checks.feedFinds(x, Checks.place(4, 2), 13);
        CHECKS.due("both one off", x.couldBe(1, 0), 0);
        Checks.feedFinds(x, Checks.place(4, 2), 301);
        CHECKS.due("a time with a high byte", x.couldBe(1, 0), 128);
        Checks.feedFinds(x, Checks.place(4, 2), 399);
        CHECKS.due("99 off", x.couldBe(1, 99), 128);
        Checks.feedFinds(x, Checks.place(4, 2), 402);
        CHECKS.due("100 off", x.couldBe(1, 99), 0);
        Checks.feedFinds(x, Checks.place(4, 2), 14, Checks.place(4, 3), 11);
        CHECKS.due("both finds", x.couldBe(2, 0), 0);
        Checks.feedFinds(x, Checks.place(4, 2), 12, Checks.place(4, 3), 11);
        CHECKS.due("both finds of the second", x.couldBe(2, 2), 2);
        Checks.feedFinds(x, Checks.place(4, 2), 14, 192, 0);
        CHECKS.due("a later PLACE above 191 is not asked", x.couldBe(1, 0), 1);
        Checks.feedFinds(x, Checks.place(0, 0), 14, 255, 0);
        CHECKS.due("a PLACE above 191", x.couldBe(2, 0), -2);
        CHECKS.due("empty then too", x.count(7), 0);
        Checks.feedFinds(x, 191, 65535);
        CHECKS.due("the last of all", x.couldBe(1, 99), 0);
        Checks.feedFinds(x, 34, 12, 34, 12, 34, 12, 34, 12, 34, 12, 34, 12, 34, 12, 34, 12, 34, 12, 34, 12);
        CHECKS.due("eleven finds of 40 bytes", x.couldBe(11, 0), -1);
        CHECKS.due("ten finds", x.couldBe(10, 0), 1);
    }
}
