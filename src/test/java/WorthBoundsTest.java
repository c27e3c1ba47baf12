/** What THE LAW comes to: bounds of e and r, what holds, 32 bits, what is REFUSED, the letters. */
public final class WorthBoundsTest {
    private static final Checks CHECKS = new Checks("WorthBoundsTest");
    private static final Bounds BOUNDS = new Bounds(CHECKS);

    public static void main(String[] args) {
        rules();
        tests();
        letters();
        CHECKS.end();
    }

    private static void rules() {
        BOUNDS.test("e how much a HOUND likes a SCENT (0 to 9999)", WorthBoundsTest::boundsOfLiking);
        BOUNDS.test("r tenths that he is at fault in a MOMENT (0 to 10)", WorthBoundsTest::boundsOfTenths);
        BOUNDS.test("x he gives up (LOST; any will do; without an x in THE LAW none does by it)",
            WorthBoundsTest::givesUp);
        BOUNDS.test("of the first RULE of e, r whose C holds the E (beyond its bounds the bound; none: 0)",
            WorthBoundsTest::firstThatHolds);
    }

    private static void tests() {
        BOUNDS.test("C: PARTS with a | between two, one of which must hold", WorthBoundsTest::anyPart);
        BOUNDS.test("TESTS with an & between two, all of which must", WorthBoundsTest::allTests);
        BOUNDS.test("a TEST: !TEST, (C), or E, one of < > =, and E.", WorthBoundsTest::comparisons);
        BOUNDS.test("with one of * / % between two; from the left on", WorthBoundsTest::fromTheLeft);
        BOUNDS.test("All is reckoned with 32 bits, as the machine does", WorthBoundsTest::wrapAround);
        BOUNDS.test("what is divided by 0 is REFUSED: then the whole C of the RULE does not hold",
            WorthBoundsTest::refusedTest);
        BOUNDS.test("the E of it is 0", WorthBoundsTest::refusedWorth);
        BOUNDS.test("Of a C as much is asked, from the left, as matters.", WorthBoundsTest::asMuchAsMatters);
    }

    private static void letters() {
        BOUNDS.test("h the HOUND", WorthBoundsTest::letterH);
        BOUNDS.test("c the CREATURE", WorthBoundsTest::letterC);
        BOUNDS.test("a AGE of the SCENT, s its STRENGTH", WorthBoundsTest::lettersAandS);
        BOUNDS.test("g by how much it is older than what he is at (10000 less its time, if he is at none yet)",
            WorthBoundsTest::letterG);
        BOUNDS.test("f his FAULTS", WorthBoundsTest::letterF);
        BOUNDS.test("n how many HOUNDS are at its PLACE", WorthBoundsTest::letterN);
        BOUNDS.test("t THE TIME modulo 100", WorthBoundsTest::letterT);
        BOUNDS.test("(c, a, s, g in r, x 0; n there where he is)", WorthBoundsTest::lettersElsewhere);
    }

    /** HOUND 0 at (4,3), where CREATURE 0 was at 5 and 6, from (3,3) at 4; THE TIME is 10: AGES 4, 5 and 6. */
    private static HeelHounds onScent(String law) {
        HeelHounds x = new HeelHounds();
        Checks.line(x, 0, 3, 3, 4, "r.");
        x.time(10);
        x.hound(0, 4, 3);
        CHECKS.due("law " + law, Checks.law(x, law) > 0, true);
        return x;
    }

    /** The time of the SCENT that he goes to by the law; 10000: to none. */
    private static void goesTo(String law, int want) {
        CHECKS.due("goes by " + law, onScent(law).tried(1, 20), want);
    }

    private static void boundsOfLiking() {
        // 9997, 9998 and 9999; then two above 9998, of which that of the later time is taken; then all.
        goesTo("e9993+a(1=1)", 4);
        goesTo("e9994+a(1=1)", 5);
        goesTo("e9995+a(1=1)", 6);
        goesTo("e99999+a(1=1)", 6);
        goesTo("e65536*32767+a(1=1)", 6);
        // Above 0, at it and below.
        goesTo("e1(1=1)", 6);
        goesTo("e0(1=1)", 10000);
        goesTo("e0-1(1=1)", 10000);
        goesTo("e0-99999(1=1)", 10000);
        goesTo("e65536*32768(1=1)", 10000);
        goesTo("ea-5(1=1)", 4);
        goesTo("ea-6(1=1)", 10000);
        goesTo("e5-a(1=1)", 6);
        goesTo("e4-a(1=1)", 10000);
        goesTo("e5-a(a>4)", 10000);
    }

    private static void boundsOfTenths() {
        for (int draw = 0; draw < 10; draw++) {
            for (int tenths = 0; tenths <= 10; tenths++) {
                HeelHounds x = onScent("e1(1=1);r" + tenths + "(1=1)");
                x.seed(Draws.seedFor(draw));
                CHECKS.due("DRAW " + draw + " of r " + tenths, x.tried(1, 30), draw < tenths ? 1 : 0);
            }
            for (String beyond : new String[] {"11", "99999", "65536*32767"}) {
                HeelHounds x = onScent("e1(1=1);r" + beyond + "(1=1)");
                x.seed(Draws.seedFor(draw));
                CHECKS.due("DRAW " + draw + " of r " + beyond, x.tried(1, 30), 1);
            }
            for (String below : new String[] {"0-1", "0-99999", "65536*32768"}) {
                HeelHounds x = onScent("e1(1=1);r" + below + "(1=1)");
                x.seed(Draws.seedFor(draw));
                CHECKS.due("DRAW " + draw + " of r " + below, x.tried(1, 30), 0);
            }
        }
    }

    private static void givesUp() {
        CHECKS.due("one x that holds", onScent("x(1=1)").tried(1, 2), 1);
        CHECKS.due("one x that does not", onScent("x(1=2)").tried(1, 2), 0);
        CHECKS.due("the second x holds", onScent("x(1=2);x(1=1)").tried(1, 2), 1);
        CHECKS.due("the first x holds", onScent("x(1=1);x(1=2)").tried(1, 2), 1);
        CHECKS.due("the last of 16", onScent("x(1=2);".repeat(15) + "x(1=1)").tried(1, 2), 1);
        CHECKS.due("none of 16", onScent("x(1=2);".repeat(15) + "x(1=2)").tried(1, 2), 0);
        CHECKS.due("no x", onScent("e1(1=1);r10(1=1)").tried(8, 2), 0);
        CHECKS.due("no x: LOST by nine FAULTS all the same", onScent("e1(1=1);r10(1=1)").tried(9, 2), 1);
        HeelHounds x = onScent("x(1=1);e1(1=1)");
        x.moments(1);
        CHECKS.due("LOST", x.houndIs(0, 3), 2);
        CHECKS.due("without a FAULT", x.houndIs(0, 2), 0);
        CHECKS.due("where he was", x.houndIs(0, 0), Checks.place(4, 3));
        CHECKS.due("at no time yet", x.houndIs(0, 1), 10000);
    }

    private static void firstThatHolds() {
        goesTo("e0(1=1);e1(1=1)", 10000);
        goesTo("e0(1=2);e1(1=1)", 6);
        goesTo("e1(1=2);e1(1=3)", 10000);
        goesTo("r1(1=2)", 10000);
        goesTo("e5(a=4);e6(a=5);e4(1=1)", 5);
        goesTo("r0(1=1);x(1=2);e0(a<6);e1(1=1)", 4);
        CHECKS.due("the first r", onScent("e1(1=1);r10(1=1);r0(1=1)").tried(1, 30), 1);
        CHECKS.due("the first r that holds", onScent("e1(1=1);r10(1=2);r0(1=1)").tried(1, 30), 0);
        CHECKS.due("no r that holds", onScent("e1(1=1);r10(1=2)").tried(1, 30), 0);
        CHECKS.due("an e is no r", onScent("e10(1=1)").tried(1, 30), 0);
        // An E that is 0 by its bound is still that of the first that holds.
        goesTo("e0-5(1=1);e1(1=1)", 10000);
        goesTo("e1(1=2);".repeat(14) + "e1(1=2);e1(1=1)", 6);
    }

    private static boolean holds(String condition) {
        HeelHounds x = new HeelHounds();
        x.hound(1, 0, 0);
        CHECKS.due("law of " + condition, Checks.law(x, "x(" + condition + ")") > 0, true);
        return x.tried(1, 2) == 2;
    }

    private static void allHold(String... conditions) {
        for (String condition : conditions) {
            CHECKS.due(condition, holds(condition), true);
        }
    }

    private static void noneHolds(String... conditions) {
        for (String condition : conditions) {
            CHECKS.due(condition, holds(condition), false);
        }
    }

    private static void anyPart() {
        allHold("1=1|1=2", "1=2|1=1", "1=2|1=2|1=1", "1=1|1=1", "1=1&1=2|1=1", "1=1|1=1&1=2", "(1=2|1=1)&1=1");
        noneHolds("1=2|1=2", "1=2|1=2|1=2", "1=1&1=2|1=2&1=1", "(1=1|1=1)&1=2", "!(1=2|1=1)");
    }

    private static void allTests() {
        allHold("1=1&1=1", "1=1&1=1&1=1", "!(1=1&1=2)", "!1=2&1=1", "!1=2&!1=2");
        noneHolds("1=1&1=2", "1=2&1=1", "1=1&1=1&1=2", "!1=1&1=1", "!(1=1&1=1)", "!1=2&1=2");
    }

    private static void comparisons() {
        allHold("4<5", "5>4", "5=5", "0-1<0", "0>0-1", "!5<5", "!5>5", "!5=4", "!!5=5", "!!!5<5", "(((5=5)))");
        noneHolds("5<5", "6<5", "5>5", "4>5", "5=4", "4=5", "0<0-1", "!5=5", "!4<5", "!5>4", "!!5<5",
            "!(5=5)", "!(4<5)", "!(5>4)", "0-1=1");
    }

    private static void fromTheLeft() {
        allHold("10-3-2=5", "10-[3-2]=9", "100/10/5=2", "100/[10/5]=50", "7%4*2=6", "7*4%3=1", "2*7/4=3",
            "2*[7/4]=2", "1+2*3=7", "[1+2]*3=9", "10-2+3=11", "10-[2+3]=5", "20%7%4=2", "20%[7%4]=2", "24/4%4=2",
            "[0-7]/2=0-3", "[0-7]%2=0-1", "7/[0-2]=0-3", "7%[0-2]=1", "[0-8]/[0-2]=4", "1/2=0", "1%2=1", "0/5=0");
    }

    private static void wrapAround() {
        String most = "65536*32767+65535";
        String least = "65536*32768";
        allHold(most + ">0", most + "+1<0", most + "+1=" + least, least + "<0", least + "-1>0",
            least + "-1=" + most, "0-[" + least + "]=" + least, "[" + least + "]*[0-1]=" + least,
            "[" + least + "]/[0-1]=" + least, "[" + least + "]%[0-1]=0", "65536*65536=0", "65536*65535=0-65536",
            "46340*46340>0", "46341*46341<0", "99999*99999=14098*10000*10+65409", "[" + most + "]*2=0-2",
            "[" + least + "]*2=0", least + "<" + most, most + ">" + least, "[" + most + "]/[0-1]=" + least + "+1");
    }

    private static void refusedTest() {
        noneHolds("1/0=0", "1%0=0", "!1/0=0", "!1%0=0", "1/[1-1]=0", "!0/0=0", "!1=1/0", "!(1/0=0)", "1/0=0|1=1",
            "!1/0=0|1=1", "(1/0=0)|1=1", "!(1=1&1/0=0)", "1=2|1/0=0|1=1", "!0*[1/0]=0", "!!1/0=0",
            "!1+[2*[3-1/0]]=0");
        allHold("1/1=1", "0/1=0", "1%1=0");
        // Another RULE is asked all the same.
        allHold("1/0=0);x(1=1");
        goesTo("e5(1/0=0);e1(1=1)", 6);
        goesTo("e5(!1/0=0);e0(1=1)", 10000);
        CHECKS.due("r of a C that is refused", onScent("e1(1=1);r10(!1%0=0);r0(1=1)").tried(1, 30), 0);
        // Only for the SCENT for which it is so: AGE 4 divides by 0.
        goesTo("e1(1/[a-4]<9)", 5);
        goesTo("e1(1/[a-5]<9)", 6);
    }

    private static void refusedWorth() {
        goesTo("e1/0(1=1)", 10000);
        goesTo("e1%0(1=1)", 10000);
        goesTo("e9+1/0(1=1)", 10000);
        goesTo("e9-0*[1/0](1=1)", 10000);
        // It is that of the first RULE that holds: no other is asked.
        goesTo("e1/0(1=1);e5(1=1)", 10000);
        goesTo("e1/0(1=2);e5(1=1)", 6);
        goesTo("e8/[a-4](1=1)", 5);
        CHECKS.due("r that is refused", onScent("e1(1=1);r10+1/0(1=1);r10(1=1)").tried(1, 30), 0);
        CHECKS.due("r by a remainder that is refused", onScent("e1(1=1);r10+1%0(1=1)").tried(1, 30), 0);
    }

    private static void asMuchAsMatters() {
        allHold("1=1|1/0=0", "1=2&1/0=0|1=1", "!(1=2&1/0=0)", "(1=1|1/0=0)&1=1", "1=1&(1=1|1/0=0)",
            "1=1|1=1&1/0=0", "1=2&(1/0=0|1=1)|1=1", "!(1=2&!1/0=0)", "1=2&1=1&1/0=0|1=1");
        noneHolds("1=1&1/0=0|1=1", "1=2|1/0=0|1=1", "1/0=0&1=2|1=1", "1/0=0|1=1", "1=1&(1=2|1/0=0)|1=1",
            "!(1=1&1/0=0)|1=1", "1=2&1/0=0");
    }

    /** Of two HOUNDS in one place, one is LOST. */
    private static void letterH() {
        for (int h = 0; h < 6; h++) {
            HeelHounds x = new HeelHounds();
            for (int other = 0; other < 6; other++) {
                x.hound(other, 3, 3);
            }
            Checks.law(x, "x(h=" + h + ")");
            CHECKS.due("x by h " + h, x.tried(1, 2), 1 << h);
            CHECKS.due("6 is none's", Checks.law(x, "x(h=6)") == 1 && x.tried(1, 2) == 0, true);
            Checks.law(x, "r10(!h=" + h + ");x(h=" + h + ")");
            CHECKS.due("r by h " + h, x.tried(1, 30 + h), 0);
            CHECKS.due("r by h of others", x.tried(1, 30 + (h + 1) % 6), 1);
        }
    }

    private static void letterC() {
        for (int c = 0; c < 8; c++) {
            HeelHounds x = new HeelHounds();
            for (int other = 0; other < 8; other++) {
                Checks.line(x, other, 3, 3, other, "r");
            }
            x.time(9);
            x.hound(0, 3, 3);
            Checks.law(x, "ec+1(c=" + c + ")");
            // At (3,3) at c, at (4,3) one later.
            CHECKS.due("by c " + c, x.tried(1, 20), c + 1);
            CHECKS.due("and to its BEGINNING", x.tried(2, 1), 1);
            CHECKS.due("8 is none's", Checks.law(x, "e1(c=8)") == 1 && x.tried(1, 30) == 1, true);
        }
    }

    private static void lettersAandS() {
        int[][] due = {{0, 9998, 99}, {1, 5, 94}, {1, 98, 1}, {9, 10, 9}};
        for (int[] at : due) {
            int age = at[1];
            HeelHounds x = new HeelHounds();
            Checks.line(x, 0, 3, 3, 0, "r");
            x.fading(at[0]);
            x.time(age);
            x.hound(0, 2, 3);
            CHECKS.due("AGE", Checks.law(x, "e1(a=" + age + "&s=" + at[2] + ")") == 1 && x.tried(1, 30) == 0, true);
            CHECKS.due("not less", Checks.law(x, "e1(a<" + age + "|s<" + at[2] + ")") == 1 && x.tried(1, 30) == 1,
                true);
            CHECKS.due("not more", Checks.law(x, "e1(a>" + age + "|s>" + at[2] + ")") == 1 && x.tried(1, 30) == 1,
                true);
        }
        HeelHounds fresh = new HeelHounds();
        Checks.line(fresh, 0, 3, 3, 0, "r");
        fresh.hound(0, 3, 3);
        Checks.law(fresh, "e1(a=0&s=99)");
        CHECKS.due("of this very time", fresh.tried(1, 1), 1);
    }

    private static void letterG() {
        HeelHounds x = onScent("e1(g=9994)");
        CHECKS.due("10000 less 6", x.tried(1, 20), 6);
        Checks.law(x, "e1(g=9996)");
        CHECKS.due("10000 less 4", x.tried(1, 20), 4);
        Checks.law(x, "e1(g<9994|g>9996)");
        CHECKS.due("no other", x.tried(1, 20), 10000);
        Checks.law(x, "e1(g=9994);e1(g=1)");
        CHECKS.due("then 1", x.tried(2, 20), 5);
        Checks.law(x, "e1(g=9994);e1(g=2)");
        CHECKS.due("then 2: the BEGINNING", x.tried(2, 20), 4);
        Checks.law(x, "e1(g=9994);e1(g=0|g>2)");
        CHECKS.due("then no other", x.tried(2, 30), 1);
        HeelHounds last = new HeelHounds();
        Checks.line(last, 0, 3, 3, 9998, "2.");
        last.time(9998);
        last.hound(0, 3, 3);
        Checks.law(last, "e1(g=2)");
        CHECKS.due("10000 less 9998", last.tried(1, 1), 1);
    }

    private static void letterF() {
        for (int faults = 0; faults < 9; faults++) {
            HeelHounds x = new HeelHounds();
            x.hound(0, 3, 3);
            Checks.law(x, "x(f=" + faults + ")");
            CHECKS.due("x by f " + faults, x.tried(faults + 1, 2), 1);
            CHECKS.due("not ahead of it", faults == 0 || x.tried(faults, 2) == 0, true);
            CHECKS.due("with so many FAULTS", x.tried(100, 30), faults);
        }
        HeelHounds x = onScent("r10(f<3);e1(f=3)");
        CHECKS.due("r by f", x.tried(3, 30), 3);
        CHECKS.due("e by f", x.tried(4, 20), 6);
        CHECKS.due("and on", x.tried(6, 1), 1);
    }

    private static void letterN() {
        // He himself stands at the SCENT's PLACE.
        HeelHounds x = onScent("e1(n=1&a<6)");
        CHECKS.due("himself", x.tried(1, 20), 6);
        Checks.law(x, "e1(n=0&a<6)");
        CHECKS.due("not none", x.tried(1, 30), 1);
        Checks.law(x, "e1(n=0)");
        x.hound(0, 4, 4);
        CHECKS.due("none there", x.tried(1, 20), 6);
        for (int h = 1; h < 6; h++) {
            x.hound(h, 4, 3);
            Checks.law(x, "e1(h=0&n=" + h + ")");
            CHECKS.due("others there", x.tried(1, 20), 6);
        }
        Checks.law(x, "e1(h=0&n=6)");
        CHECKS.due("not he", x.tried(1, 20), 10000);
        // Those that are LOST are HOUNDS at their PLACE still, and so are those that are HOME.
        Checks.law(x, "x(h>0)");
        CHECKS.due("one is RUNNING", x.moments(1), 1);
        Checks.law(x, "e1(n=5)");
        CHECKS.due("five that are LOST", x.tried(1, 20), 6);
        HeelHounds y = onScent("e1(1=1)");
        y.hound(0, 2, 3);
        y.moments(1);
        CHECKS.due("HOME at (3,3)", y.houndIs(0, 3), 1);
        y.hound(1, 3, 4);
        Checks.law(y, "e1(n=1)");
        CHECKS.due("one that is HOME", y.tried(1, 21), 4);
        Checks.law(y, "e1(n=0)");
        CHECKS.due("not none there", y.tried(1, 31), 1);
    }

    private static void letterT() {
        int[] times = {0, 1, 98, 99, 100, 101, 199, 200, 9900, 9998};
        int[] due = {0, 1, 98, 99, 0, 1, 99, 0, 0, 98};
        for (int i = 0; i < times.length; i++) {
            HeelHounds x = new HeelHounds();
            x.time(times[i]);
            x.hound(0, 0, 0);
            Checks.law(x, "x(t=" + due[i] + ")");
            CHECKS.due("t at " + times[i], x.tried(1, 2), 1);
        }
        HeelHounds x = new HeelHounds();
        x.time(99);
        x.hound(0, 0, 0);
        Checks.law(x, "x(t=0)");
        CHECKS.due("not at 99", x.tried(1, 2), 0);
        CHECKS.due("then at 100", x.tried(2, 2), 1);
    }

    private static void lettersElsewhere() {
        HeelHounds x = onScent("x(c=0&a=0&s=0&g=0)");
        CHECKS.due("in x", x.tried(1, 2), 1);
        Checks.law(x, "e1(1=1);r10(c=0&a=0&s=0&g=0)");
        CHECKS.due("in r", x.tried(1, 30), 1);
        Checks.law(x, "e1(1=1);r10+c+a+s+g(1=1)");
        CHECKS.due("in the E of r", x.tried(1, 30), 1);
        // A HOUND ahead of him has weighed SCENTS of CREATURE 1: that is nothing to the next one.
        HeelHounds y = onScent("e1(1=1)");
        Checks.line(y, 1, 9, 9, 3, "r");
        y.hound(0, 9, 9);
        y.hound(1, 0, 0);
        y.hound(2, 0, 0);
        Checks.law(y, "e1(1=1);x(h=1&c=0&a=0&s=0&g=0&n=2)");
        CHECKS.due("in x of the second", y.tried(1, 2), 2);
        Checks.law(y, "e1(1=1);x(h=1&n=1)");
        CHECKS.due("n where he is", y.tried(1, 2), 0);
        Checks.law(y, "e1(1=1);r10(h=1&n=2)");
        CHECKS.due("n where he is, in r", y.tried(1, 31), 1);
        Checks.law(y, "e1(h=0);r0-9+9*n(1=1)");
        y.seed(Draws.seedFor(0));
        CHECKS.due("n of one in r", y.tried(1, 30), 0);
    }
}
