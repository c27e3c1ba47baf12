/** A MOMENT's sentences, promises 9 (moments), 10 (tried) and 14 (firstHome), each at its edge and just past it. */
public final class MomentBoundsTest {
    private static final Checks CHECKS = new Checks("MomentBoundsTest");
    private static final Bounds BOUNDS = new Bounds(CHECKS);

    public static void main(String[] args) {
        turns();
        choices();
        ends();
        promises();
        CHECKS.end();
    }

    private static void turns() {
        BOUNDS.test("A MOMENT: each RUNNING HOUND, by numbers, as it is then", MomentBoundsTest::byNumbers);
        BOUNDS.test("by x he is LOST.", MomentBoundsTest::lostByX);
        BOUNDS.test("Else with a DRAW below r (asked ahead) he is at fault (FAULTS one more).",
            MomentBoundsTest::faultByDraw);
        BOUNDS.test("DRAWS: X = (25173 X + 13849) modulo 65536 (X is THE SEED at first, 1): X modulo 10.",
            MomentBoundsTest::draws);
    }

    private static void choices() {
        BOUNDS.test("of SCENTS at his own PLACE and those up, right, down, left of it", MomentBoundsTest::reach);
        BOUNDS.test("of times ahead of the TIME HE IS AT, he goes", MomentBoundsTest::timesAhead);
        BOUNDS.test("he goes to the one he likes most (e above 0;", MomentBoundsTest::likesMost);
        BOUNDS.test("of like ones that of the latest time,", MomentBoundsTest::latestTime);
        BOUNDS.test("then the first of own, up, right, down, left,", MomentBoundsTest::firstWay);
        BOUNDS.test("then the lowest CREATURE)", MomentBoundsTest::lowestCreature);
        BOUNDS.test("he is at its PLACE, and at its time; is that a BEGINNING of that CREATURE's, he is HOME.",
            MomentBoundsTest::home);
    }

    private static void ends() {
        BOUNDS.test("None: he is at fault.", MomentBoundsTest::noneIsAFault);
        BOUNDS.test("99 less AGE times FADING (if that is 0 or less there is none)", MomentBoundsTest::faded);
        BOUNDS.test("At 9 FAULTS he is LOST.", MomentBoundsTest::nineFaults);
        BOUNDS.test("THE TIME is one more (9999 at most: then none goes by).", MomentBoundsTest::lastTime);
    }

    private static void promises() {
        BOUNDS.test("MOMENTS (1 to 100; as many as can) go by: how many are RUNNING then", MomentBoundsTest::moments);
        BOUNDS.test("TRIED are n MOMENTS by the DRAWS that will come (nothing is changed).",
            MomentBoundsTest::triedChangesNothing);
        BOUNDS.test("MOMENTS (1 to 100; as many as can) that are tried, what 0 RUNNING, 1 HOME, 2 LOST ones then (bits)",
            MomentBoundsTest::triedBits);
        BOUNDS.test("10 + h the PLACE (16 Y and X), 20 + h the TIME HE IS AT, 30 + h FAULTS of told HOUND h then",
            MomentBoundsTest::triedOfHounds);
        BOUNDS.test("FIRST HOME: behind how many of n MOMENTS a HOUND is HOME; who (of one MOMENT the lowest).",
            MomentBoundsTest::whoIsHome);
        BOUNDS.test("FIRST HOME in n MOMENTS (1 to 100), what 0 behind how many (0: one is), 1 who; -2: none",
            MomentBoundsTest::firstHome);
    }

    /** THE TIME is 20; CREATURE 0 from (2,2) at 10, four to the right and two down, to (6,4) at 16. */
    private static HeelHounds hunt(String law) {
        HeelHounds x = new HeelHounds();
        Checks.line(x, 0, 2, 2, 10, "4r2d");
        x.time(20);
        CHECKS.due("law " + law, Checks.law(x, law) > 0, true);
        return x;
    }

    private static void hound(HeelHounds x, int h, int place, int time, int faults, int state) {
        CHECKS.due("PLACE of " + h, x.houndIs(h, 0), place);
        CHECKS.due("TIME of " + h, x.houndIs(h, 1), time);
        CHECKS.due("FAULTS of " + h, x.houndIs(h, 2), faults);
        CHECKS.due("state of " + h, x.houndIs(h, 3), state);
    }

    private static void byNumbers() {
        // Only to where nobody is: the lower one goes first, and the higher one sees him there.
        HeelHounds x = hunt("e1(n=0)");
        x.hound(5, 5, 4);
        x.hound(2, 6, 5);
        x.moments(1);
        hound(x, 2, Checks.place(6, 4), 16, 0, 0);
        hound(x, 5, Checks.place(5, 4), 10000, 1, 0);
        // HE who has left is there no more: HOUND 1 may go where HOUND 0 was.
        HeelHounds y = hunt("e1(n=0)");
        y.hound(0, 6, 4);
        y.hound(1, 6, 5);
        y.moments(1);
        hound(y, 0, Checks.place(6, 3), 15, 0, 0);
        hound(y, 1, Checks.place(6, 4), 16, 0, 0);
        // The DRAWS come by numbers.
        HeelHounds z = hunt("e1(1=1);r3(1=1)");
        z.hound(4, 6, 4);
        z.hound(3, 6, 4);
        z.moments(1);
        CHECKS.due("the first draws 2", z.houndIs(3, 2), 1);
        CHECKS.due("the second draws 7", z.houndIs(4, 2), 0);
        // Who is HOME or LOST stays, and does not draw.
        HeelHounds rest = hunt("e1(1=1);x(h=1)");
        rest.hound(0, 1, 2);
        rest.hound(1, 6, 4);
        rest.moments(1);
        hound(rest, 0, Checks.place(2, 2), 10, 0, 1);
        hound(rest, 1, Checks.place(6, 4), 10000, 0, 2);
        Checks.law(rest, "r10(1=1)");
        rest.moments(3);
        hound(rest, 0, Checks.place(2, 2), 10, 0, 1);
        hound(rest, 1, Checks.place(6, 4), 10000, 0, 2);
        CHECKS.due("one DRAW in all", rest.count(8), Draws.behind(1, 1));
    }

    private static void lostByX() {
        HeelHounds x = hunt("x(h=0);e1(1=1);r10(h=0)");
        x.hound(0, 6, 4);
        x.hound(1, 6, 4);
        CHECKS.due("RUNNING", x.moments(1), 1);
        hound(x, 0, Checks.place(6, 4), 10000, 0, 2);
        hound(x, 1, Checks.place(6, 4), 16, 0, 0);
        CHECKS.due("he does not draw", x.count(8), Draws.behind(1, 1));
        // x is asked ahead of all: he who would be HOME is LOST.
        HeelHounds y = hunt("x(1=1);e1(1=1)");
        y.hound(0, 1, 2);
        y.moments(1);
        CHECKS.due("LOST", y.houndIs(0, 3), 2);
        CHECKS.due("no DRAW", y.count(8), 1);
        CHECKS.due("THE TIME", y.count(0), 21);
    }

    private static void faultByDraw() {
        for (int draw = 0; draw < 10; draw++) {
            HeelHounds x = hunt("e1(1=1);r5(1=1)");
            x.hound(0, 6, 4);
            x.seed(Draws.seedFor(draw));
            x.moments(1);
            hound(x, 0, Checks.place(6, 4), draw < 5 ? 10000 : 16, draw < 5 ? 1 : 0, 0);
        }
        // r is asked ahead of the DRAW, with the FAULTS he had.
        HeelHounds y = hunt("e1(1=1);r10(f=0)");
        y.hound(0, 6, 4);
        y.moments(1);
        hound(y, 0, Checks.place(6, 4), 10000, 1, 0);
        y.moments(1);
        hound(y, 0, Checks.place(6, 4), 16, 1, 0);
        // He draws without an r, too, and where there is no SCENT.
        HeelHounds z = hunt("e1(1=1)");
        z.hound(0, 6, 4);
        z.hound(1, 15, 11);
        z.moments(2);
        CHECKS.due("four DRAWS", z.count(8), Draws.behind(1, 4));
    }

    private static void draws() {
        HeelHounds x = new HeelHounds();
        x.hound(0, 0, 0);
        int[] due = {39022, 61087, 20196};
        for (int drawn : due) {
            x.moments(1);
            CHECKS.due("X", x.count(8), drawn);
        }
        // The least and the most, those around the sign of 32 bits, and those that come to 0 and to 65535.
        int[] seeds = {0, 1, 2, 3, 32767, 32768, 65534, 65535, 3915, 33870, 40000, 50000};
        for (int seed : seeds) {
            HeelHounds y = new HeelHounds();
            y.hound(3, 0, 0);
            y.seed(seed);
            y.moments(1);
            CHECKS.due("X behind " + seed, y.count(8), Draws.behind(seed, 1));
            y.moments(7);
            CHECKS.due("X eight behind " + seed, y.count(8), Draws.behind(seed, 8));
        }
        for (int seed = 0; seed < 65536; seed += 131) {
            HeelHounds y = new HeelHounds();
            y.hound(3, 0, 0);
            y.seed(seed);
            Checks.law(y, "r" + Draws.behind(seed, 1) % 10 + "(1=1);e1(1=1)");
            Checks.line(y, 0, 0, 0, 0, ".");
            CHECKS.due("a DRAW that is r is not below it", y.tried(1, 33), 0);
            Checks.law(y, "r" + (Draws.behind(seed, 1) % 10 + 1) + "(1=1);e1(1=1)");
            CHECKS.due("a DRAW that is one less is", y.tried(1, 33), 1);
        }
    }

    /** Whether a HOUND at a PLACE goes to a SCENT at another. */
    private static boolean reaches(int x, int y, int column, int row) {
        HeelHounds hunt = new HeelHounds();
        Checks.line(hunt, 0, column, row, 0, "9.");
        Checks.law(hunt, "e1(1=1)");
        hunt.time(20);
        hunt.hound(0, x, y);
        return hunt.tried(1, 30) == 0 && hunt.tried(1, 10) == Checks.place(column, row);
    }

    private static void reach() {
        int[][] hounds = {{7, 6}, {0, 0}, {15, 0}, {0, 11}, {15, 11}, {0, 5}, {15, 5}, {7, 0}, {7, 11},
            {1, 5}, {14, 5}, {7, 1}, {7, 10}};
        for (int[] hound : hounds) {
            for (int place = 0; place < 192; place++) {
                int far = Math.abs(hound[0] - place % 16) + Math.abs(hound[1] - place / 16);
                CHECKS.due("from " + hound[0] + "," + hound[1] + " to " + place,
                    reaches(hound[0], hound[1], place % 16, place / 16), far <= 1);
            }
        }
    }

    private static void timesAhead() {
        HeelHounds x = new HeelHounds();
        Checks.line(x, 0, 5, 5, 0, "2r2l");
        Checks.law(x, "e1+a(1=1)");
        // At (6,5) at 1 and 3: once he is at 1 there is but 0 for him, not 1 again.
        x.time(4);
        x.hound(0, 6, 4);
        x.moments(1);
        hound(x, 0, Checks.place(6, 5), 1, 0, 0);
        x.moments(1);
        hound(x, 0, Checks.place(5, 5), 0, 0, 1);
        // Where a time is his own it is no SCENT for him.
        HeelHounds y = new HeelHounds();
        Checks.line(y, 0, 5, 5, 8, "r");
        Checks.line(y, 1, 6, 5, 9, "d");
        Checks.law(y, "e1(a=1)");
        y.time(10);
        y.hound(0, 6, 5);
        y.moments(1);
        // Of 9 there are two at (6,5): he goes to that of CREATURE 0, and that of 1 is not ahead of it.
        hound(y, 0, Checks.place(6, 5), 9, 0, 0);
        Checks.law(y, "e1(a=2)");
        y.moments(1);
        hound(y, 0, Checks.place(6, 5), 9, 1, 0);
        Checks.law(y, "e1(a=4)");
        y.moments(1);
        hound(y, 0, Checks.place(5, 5), 8, 1, 1);
        // At none yet all times are ahead, the last one, too.
        HeelHounds z = new HeelHounds();
        Checks.line(z, 0, 5, 5, 9998, ".");
        Checks.law(z, "e1(1=1)");
        z.time(9998);
        z.hound(0, 5, 5);
        CHECKS.due("9998", z.tried(1, 20), 9998);
    }

    private static void likesMost() {
        HeelHounds x = hunt("ea(1=1)");
        x.hound(0, 6, 2);
        CHECKS.due("the oldest beside him", x.tried(1, 20), 13);
        Checks.law(x, "es(1=1)");
        CHECKS.due("the strongest beside him", x.tried(1, 20), 15);
        Checks.law(x, "e1(a<6);e2(a=6);e1(1=1)");
        CHECKS.due("one that is liked by one more", x.tried(1, 20), 14);
        Checks.law(x, "e0(1=1)");
        CHECKS.due("e 0", x.tried(1, 30), 1);
        Checks.law(x, "e0-1(1=1)");
        CHECKS.due("e below 0", x.tried(1, 30), 1);
        Checks.law(x, "e1(1=1)");
        CHECKS.due("e 1", x.tried(1, 30), 0);
        Checks.law(x, "e9998(a=5);e9999(a=7);e9998(1=1)");
        CHECKS.due("e 9999", x.tried(1, 20), 13);
    }

    private static void latestTime() {
        HeelHounds x = hunt("e1(1=1)");
        x.hound(0, 5, 2);
        // (5,2) at 13, (6,2) at 14, (4,2) at 12.
        CHECKS.due("the latest", x.tried(1, 20), 14);
        CHECKS.due("its PLACE", x.tried(1, 10), Checks.place(6, 2));
        // It goes ahead of own, and of a lower CREATURE.
        Checks.line(x, 7, 4, 2, 15, ".");
        CHECKS.due("of the highest CREATURE, to the left", x.tried(1, 20), 16);
        CHECKS.due("its PLACE then", x.tried(1, 10), Checks.place(4, 2));
    }

    private static void firstWay() {
        int[] columns = {5, 5, 6, 5, 4};
        int[] rows = {5, 4, 5, 6, 5};
        // Of each two ways the first is taken, whichever CREATURE has it.
        for (int first = 0; first < 5; first++) {
            for (int second = first + 1; second < 5; second++) {
                for (int c = 0; c < 2; c++) {
                    HeelHounds x = new HeelHounds();
                    Checks.line(x, c, columns[first], rows[first], 5, ".");
                    Checks.line(x, 1 - c, columns[second], rows[second], 5, ".");
                    Checks.law(x, "e1(1=1)");
                    x.time(9);
                    x.hound(0, 5, 5);
                    CHECKS.due("ways " + first + " and " + second, x.tried(1, 10),
                        Checks.place(columns[first], rows[first]));
                    CHECKS.due("the time of both", x.tried(1, 20), 6);
                }
            }
        }
    }

    private static void lowestCreature() {
        // Both are at (5,5) at 6; that is a BEGINNING of one of them only.
        for (int low = 0; low < 7; low++) {
            for (int high = low + 1; high < 8; high++) {
                for (int begins = 0; begins < 2; begins++) {
                    HeelHounds x = new HeelHounds();
                    Checks.line(x, low, 5, 5, begins == 0 ? 6 : 5, begins == 0 ? "r" : ".");
                    Checks.line(x, high, 5, 5, begins == 0 ? 5 : 6, begins == 0 ? "." : "r");
                    Checks.law(x, "e1(a=3)");
                    x.time(9);
                    x.hound(0, 5, 5);
                    CHECKS.due("HOME by the lowest", x.tried(1, 1), begins == 0 ? 1 : 0);
                    CHECKS.due("at 6", x.tried(1, 20), 6);
                }
            }
        }
    }

    private static void home() {
        // Back at the PLACE of its BEGINNING is no BEGINNING.
        HeelHounds x = new HeelHounds();
        Checks.line(x, 0, 5, 5, 3, "rl");
        Checks.law(x, "e1(1=1)");
        x.time(9);
        x.hound(0, 5, 5);
        x.moments(1);
        hound(x, 0, Checks.place(5, 5), 5, 0, 0);
        x.moments(1);
        hound(x, 0, Checks.place(6, 5), 4, 0, 0);
        x.moments(1);
        hound(x, 0, Checks.place(5, 5), 3, 0, 1);
        CHECKS.due("RUNNING", x.count(2), 0);
        // The time and PLACE of another's BEGINNING are none of the one that he follows.
        HeelHounds y = new HeelHounds();
        Checks.line(y, 0, 5, 5, 5, ".");
        Checks.line(y, 1, 5, 5, 4, "2.");
        Checks.law(y, "e1(c=1&a=4)");
        y.time(9);
        y.hound(0, 5, 5);
        CHECKS.due("not HOME by 1", y.tried(1, 1), 0);
        Checks.law(y, "e1(c=0&a=4)");
        CHECKS.due("HOME by 0", y.tried(1, 1), 1);
        // A BEGINNING at time 0, and one of this very time.
        HeelHounds z = new HeelHounds();
        Checks.line(z, 0, 5, 5, 0, "r");
        Checks.law(z, "e1(1=1)");
        z.hound(0, 5, 4);
        CHECKS.due("HOME at 0", z.tried(1, 1), 1);
        CHECKS.due("TIME HE IS AT", z.tried(1, 20), 0);
    }

    private static void noneIsAFault() {
        HeelHounds x = hunt("e1(1=1)");
        x.hound(0, 9, 9);
        x.moments(1);
        hound(x, 0, Checks.place(9, 9), 10000, 1, 0);
        // One he has followed to its end, where he is not HOME: nothing is ahead of it.
        HeelHounds y = hunt("e1(a>3)");
        Checks.line(y, 0, 2, 2, 10, "r");
        y.hound(0, 3, 2);
        y.moments(1);
        hound(y, 0, Checks.place(3, 2), 11, 0, 0);
        Checks.law(y, "e1(c=1)");
        y.moments(1);
        hound(y, 0, Checks.place(3, 2), 11, 1, 0);
        // Under water there is none, above it there is.
        HeelHounds z = hunt("e1(1=1)");
        Checks.land(z, "~6,2:1x3");
        z.hound(0, 6, 3);
        CHECKS.due("in the water", z.tried(1, 30), 1);
        Checks.land(z, "~6,2:1x3;a6,3:1x1=0");
        CHECKS.due("a FIELD over it", z.tried(1, 20), 15);
    }

    /** For each FADING the last AGE at which there is a SCENT to go to. */
    private static void faded() {
        int[] ages = {9998, 98, 49, 32, 24, 19, 16, 14, 12, 10};
        for (int fading = 0; fading < 10; fading++) {
            HeelHounds x = new HeelHounds();
            Checks.line(x, 0, 5, 5, 0, "r");
            Checks.law(x, "e1(1=1)");
            x.fading(fading);
            x.hound(0, 4, 5);
            x.time(ages[fading]);
            CHECKS.due("HOME by AGE " + ages[fading], x.tried(1, 1), 1);
            x.time(ages[fading] + 1);
            CHECKS.due("FAULTS by one more", x.tried(1, 30), fading == 0 ? 0 : 1);
            CHECKS.due("not HOME by one more", x.tried(1, 1), 0);
            x.time(Math.min(9998, ages[fading] + 9));
            CHECKS.due("FAULTS by nine more", x.tried(1, 30), fading == 0 ? 0 : 1);
        }
    }

    private static void nineFaults() {
        HeelHounds x = hunt("e1(1=1)");
        x.hound(0, 9, 9);
        CHECKS.due("RUNNING behind eight", x.moments(8), 1);
        hound(x, 0, Checks.place(9, 9), 10000, 8, 0);
        CHECKS.due("RUNNING behind nine", x.moments(1), 0);
        hound(x, 0, Checks.place(9, 9), 10000, 9, 2);
        x.moments(5);
        hound(x, 0, Checks.place(9, 9), 10000, 9, 2);
        CHECKS.due("nine DRAWS", x.count(8), Draws.behind(1, 9));
        // By DRAWS as well.
        HeelHounds y = hunt("e1(1=1);r10(1=1)");
        y.hound(0, 6, 4);
        CHECKS.due("behind eight", y.tried(8, 0), 1);
        CHECKS.due("behind nine", y.tried(9, 2), 1);
        CHECKS.due("FAULTS of one that is LOST", y.tried(100, 30), 9);
        // Those with a way between them count, too: FAULTS stay.
        HeelHounds z = hunt("e1(t=28);r10(t<28|t>28)");
        z.hound(0, 6, 4);
        z.moments(9);
        hound(z, 0, Checks.place(6, 4), 16, 8, 0);
        z.moments(1);
        hound(z, 0, Checks.place(6, 4), 16, 9, 2);
    }

    private static void lastTime() {
        HeelHounds x = new HeelHounds();
        x.hound(0, 0, 0);
        x.time(9997);
        x.moments(1);
        CHECKS.due("THE TIME is one more", x.count(0), 9998);
        x.moments(1);
        CHECKS.due("9999", x.count(0), 9999);
        CHECKS.due("two FAULTS", x.houndIs(0, 2), 2);
        CHECKS.due("RUNNING, though none goes by", x.moments(1), 1);
        CHECKS.due("THE TIME stays", x.count(0), 9999);
        CHECKS.due("FAULTS stay", x.houndIs(0, 2), 2);
        CHECKS.due("X stays", x.count(8), Draws.behind(1, 2));
        CHECKS.due("none is tried", x.tried(100, 30), 2);
        // x would make him LOST, if one went by.
        Checks.law(x, "x(1=1)");
        CHECKS.due("RUNNING", x.tried(1, 0), 1);
        HeelHounds y = new HeelHounds();
        y.time(9998);
        y.moments(100);
        CHECKS.due("none is told: THE TIME", y.count(0), 9999);
    }

    private static void moments() {
        HeelHounds x = hunt("e1(1=1)");
        x.hound(0, 6, 4);
        x.hound(1, 15, 11);
        CHECKS.due("n 0", x.moments(0), -1);
        CHECKS.due("n 101", x.moments(101), -1);
        CHECKS.due("n -1", x.moments(-1), -1);
        CHECKS.due("THE TIME stays", x.count(0), 20);
        CHECKS.due("X stays", x.count(8), 1);
        CHECKS.due("n 1", x.moments(1), 2);
        CHECKS.due("THE TIME", x.count(0), 21);
        CHECKS.due("n 6", x.moments(6), 1);
        CHECKS.due("n 100", x.moments(100), 0);
        CHECKS.due("THE TIME behind 107", x.count(0), 127);
        HeelHounds y = new HeelHounds();
        y.time(9899);
        y.moments(100);
        CHECKS.due("a hundred to the last time", y.count(0), 9999);
        HeelHounds z = new HeelHounds();
        z.time(9950);
        z.hound(0, 0, 0);
        CHECKS.due("as many as can", z.moments(100), 0);
        CHECKS.due("49", z.count(0), 9999);
        HeelHounds all = new HeelHounds();
        for (int h = 0; h < 6; h++) {
            all.hound(h, h, h);
        }
        CHECKS.due("six RUNNING", all.moments(8), 6);
        CHECKS.due("and none", all.moments(1), 0);
    }

    private static void triedChangesNothing() {
        for (int what : new int[] {0, 1, 2, 10, 21, 34}) {
            HeelHounds x = Snapshot.full();
            x.tried(100, what);
            x.firstHome(100, what % 2);
            String apart = Snapshot.difference(Snapshot.of(x), Snapshot.of(Snapshot.full()));
            CHECKS.due("all as before: " + apart, apart.isEmpty(), true);
        }
        // What is tried comes true: by the DRAWS that will come.
        for (int n = 1; n <= 12; n++) {
            HeelHounds x = hunt("e1(1=1);r5(1=1)");
            x.hound(0, 6, 4);
            x.seed(4711);
            int place = x.tried(n, 10);
            int time = x.tried(n, 20);
            int faults = x.tried(n, 30);
            int running = x.tried(n, 0);
            x.moments(n);
            CHECKS.due("PLACE", x.houndIs(0, 0), place);
            CHECKS.due("TIME HE IS AT", x.houndIs(0, 1), time);
            CHECKS.due("FAULTS", x.houndIs(0, 2), faults);
            CHECKS.due("RUNNING", x.count(2), running);
        }
    }

    private static void triedBits() {
        HeelHounds x = hunt("x(h=5&t=21);e1(1=1)");
        x.hound(0, 2, 2);
        x.hound(2, 6, 4);
        x.hound(5, 9, 9);
        CHECKS.due("n 0", x.tried(0, 0), -1);
        CHECKS.due("n 101", x.tried(101, 0), -1);
        CHECKS.due("n 1", x.tried(1, 0), 37);
        CHECKS.due("RUNNING", x.tried(2, 0), 4);
        CHECKS.due("HOME", x.tried(2, 1), 1);
        CHECKS.due("LOST", x.tried(2, 2), 32);
        CHECKS.due("n 100: HOME", x.tried(100, 1), 5);
        CHECKS.due("n 100: LOST", x.tried(100, 2), 32);
        CHECKS.due("what 3", x.tried(1, 3), -1);
        CHECKS.due("what -1", x.tried(1, -1), -1);
        CHECKS.due("what 9", x.tried(1, 9), -1);
        HeelHounds late = hundred();
        CHECKS.due("HOME behind 99", late.tried(99, 1), 0);
        CHECKS.due("HOME behind 100", late.tried(100, 1), 8);
        late.time(9899);
        CHECKS.due("a hundred to the last time", late.tried(100, 1), 8);
        late.time(9900);
        CHECKS.due("as many as can", late.tried(100, 1), 0);
        CHECKS.due("one is missing", late.tried(100, 23), 1);
    }

    private static void triedOfHounds() {
        HeelHounds x = hunt("e1(1=1)");
        x.hound(0, 6, 4);
        x.hound(5, 9, 9);
        for (int what = -1; what <= 45; what++) {
            boolean isTold = what >= 10 && what < 40 && (what % 10 == 0 || what % 10 == 5);
            if (!isTold && (what < 0 || what > 2)) {
                CHECKS.due("what " + what, x.tried(2, what), -1);
            }
        }
        CHECKS.due("PLACE of 0", x.tried(2, 10), Checks.place(6, 3));
        CHECKS.due("PLACE of 5", x.tried(2, 15), Checks.place(9, 9));
        CHECKS.due("TIME of 0", x.tried(2, 20), 15);
        CHECKS.due("TIME of 5", x.tried(2, 25), 10000);
        CHECKS.due("FAULTS of 0", x.tried(2, 30), 0);
        CHECKS.due("FAULTS of 5", x.tried(2, 35), 2);
        CHECKS.due("n 0", x.tried(0, 10), -1);
        CHECKS.due("n 101", x.tried(101, 10), -1);
        CHECKS.due("of one that is HOME", x.tried(100, 20), 10);
        CHECKS.due("of one that is LOST", x.tried(100, 35), 9);
    }

    private static void whoIsHome() {
        HeelHounds x = hunt("e1(1=1)");
        x.hound(5, 3, 2);
        x.hound(4, 3, 2);
        x.hound(1, 15, 11);
        // To (4,2) at 12, to 11 and to 10.
        CHECKS.due("behind three", x.firstHome(100, 0), 3);
        CHECKS.due("the lowest of two", x.firstHome(100, 1), 4);
        x.hound(5, 2, 2);
        CHECKS.due("behind two", x.firstHome(100, 0), 2);
        CHECKS.due("the sooner one, not the lowest", x.firstHome(100, 1), 5);
        x.moments(3);
        CHECKS.due("both are", x.tried(1, 1), 48);
        CHECKS.due("one is", x.firstHome(1, 0), 0);
        CHECKS.due("the lowest of those that are", x.firstHome(1, 1), 4);
    }

    /** HOUND 3 is three times at fault, at 100, 101 and 102, and then goes by the 97 times of a LINE. */
    private static HeelHounds hundred() {
        HeelHounds x = new HeelHounds();
        Checks.line(x, 0, 5, 5, 0, "9(9.)9.6.");
        Checks.law(x, "r10(t<3);e1(1=1)");
        x.fading(0);
        x.time(100);
        x.hound(3, 5, 5);
        // At 200 and later t is below 3 again: he is HOME at the end of 199.
        return x;
    }

    private static void firstHome() {
        HeelHounds x = hundred();
        CHECKS.due("n 0", x.firstHome(0, 0), -1);
        CHECKS.due("n 101", x.firstHome(101, 0), -1);
        CHECKS.due("behind a hundred", x.firstHome(100, 0), 100);
        CHECKS.due("who", x.firstHome(100, 1), 3);
        CHECKS.due("not behind 99", x.firstHome(99, 0), -2);
        CHECKS.due("nobody behind 99", x.firstHome(99, 1), -2);
        CHECKS.due("n 1", x.firstHome(1, 0), -2);
        CHECKS.due("what -1", x.firstHome(100, -1), -1);
        CHECKS.due("what 2", x.firstHome(100, 2), -1);
        x.moments(99);
        CHECKS.due("in the next one", x.firstHome(1, 0), 1);
        CHECKS.due("who then", x.firstHome(1, 1), 3);
        x.moments(1);
        CHECKS.due("one is", x.firstHome(1, 0), 0);
        CHECKS.due("who is", x.firstHome(1, 1), 3);
        x.time(9999);
        CHECKS.due("one is, at the last time", x.firstHome(100, 0), 0);
        CHECKS.due("who is, at the last time", x.firstHome(100, 1), 3);
        // He would be HOME in one MOMENT more than can go by.
        HeelHounds y = new HeelHounds();
        Checks.line(y, 0, 5, 5, 9990, "2.");
        Checks.law(y, "e1(1=1)");
        y.time(9996);
        y.hound(0, 5, 5);
        CHECKS.due("behind three that can", y.firstHome(100, 0), 3);
        y.time(9997);
        CHECKS.due("two can", y.firstHome(100, 0), -2);
        CHECKS.due("nobody", y.firstHome(100, 1), -2);
        HeelHounds z = new HeelHounds();
        z.hound(0, 0, 0);
        CHECKS.due("one that is LOST", z.firstHome(100, 0), -2);
    }
}
