import java.util.ArrayList;
import java.util.List;
import java.util.function.ToIntFunction;

/**
 * What is told in place of another leaves nothing of it, and no question leaves anything for the next: objects that
 * were told more, or asked more, answer as those do that were not.
 */
public final class TwinTest {
    private static final Checks CHECKS = new Checks("TwinTest");
    private static final Bounds BOUNDS = new Bounds(CHECKS);

    public static void main(String[] args) {
        BOUNDS.test("(1 to 60; empty then), in place of the one before", TwinTest::lines);
        BOUNDS.test("(1 to 160; empty then), in place of the one before", TwinTest::lands);
        BOUNDS.test("(1 to 240; empty then), in place of the one before", TwinTest::laws);
        BOUNDS.test("A HOUND at a PLACE (in place of the one before)", TwinTest::hounds);
        BOUNDS.test("All memory is the hunt's own.", TwinTest::questions);
        CHECKS.end();
    }

    /** A full hunt with an empty tape. */
    private static HeelHounds full() {
        HeelHounds x = Snapshot.full();
        x.check(0);
        return x;
    }

    private static List<ToIntFunction<HeelHounds>> ofLines() {
        List<ToIntFunction<HeelHounds>> asked = new ArrayList<>();
        for (int what = 0; what < 8; what++) {
            int of = what;
            asked.add(x -> x.lineIs(0, of));
            asked.add(x -> x.stayed(0, of));
            asked.add(x -> x.charges(0, of));
            asked.add(x -> x.two(0, 2, of));
            asked.add(x -> x.unlooped(0, of));
        }
        asked.add(x -> x.unlooped(0, 100));
        asked.add(x -> x.heldIn(0));
        asked.add(x -> x.heldIn(7));
        asked.add(x -> x.together(0, 2, 9));
        asked.add(x -> x.crowd(12, 0));
        asked.add(x -> x.crowd(12, 1));
        for (int t = 0; t < 120; t++) {
            int at = t;
            asked.add(x -> x.where(0, at));
        }
        return asked;
    }

    private static List<ToIntFunction<HeelHounds>> ofLand() {
        List<ToIntFunction<HeelHounds>> asked = new ArrayList<>();
        asked.add(x -> x.round(0, 191));
        asked.add(x -> x.round(85, 20));
        asked.add(x -> x.round(51, 20));
        asked.add(x -> x.huntable(1));
        asked.add(x -> x.huntable(70));
        asked.add(x -> x.freshest(6, 5, 0));
        asked.add(x -> x.freshest(6, 5, 1));
        asked.add(x -> x.freshest(6, 5, 2));
        asked.add(x -> x.cast(0));
        asked.add(x -> x.cast(1));
        asked.add(x -> x.cast(4));
        for (int place = 0; place < 192; place += 3) {
            int at = place;
            asked.add(x -> x.landAt(at % 16, at / 16));
        }
        return asked;
    }

    private static List<ToIntFunction<HeelHounds>> ofHounds() {
        List<ToIntFunction<HeelHounds>> asked = new ArrayList<>();
        for (int n = 1; n < 6; n++) {
            for (int what : new int[] {0, 1, 2, 10, 11, 14, 20, 21, 24, 30, 31, 34}) {
                int moments = n;
                asked.add(x -> x.tried(moments, what));
            }
        }
        asked.add(x -> x.firstHome(100, 0));
        asked.add(x -> x.firstHome(100, 1));
        for (int what = 0; what < 9; what++) {
            int of = what;
            asked.add(x -> x.count(of));
        }
        return asked;
    }

    private static void alike(String name, HeelHounds one, HeelHounds other, List<ToIntFunction<HeelHounds>> asked) {
        for (int i = 0; i < asked.size(); i++) {
            CHECKS.due(name + ", question " + i, asked.get(i).applyAsInt(one), asked.get(i).applyAsInt(other));
        }
    }

    private static void lines() {
        String[] texts = {"r", "2r2d2lu", ".", "rlrl", "3(rd)", "3(rd).", "2ud", "9.", "5r.", "9(9l)9u6r"};
        String[] befores = {"9(9.)9.6.", "8(4(urd))", "9(9r)9d6l", "3(9r6rd9l6ld)", "9(9(u))9(r)"};
        for (String text : texts) {
            for (String before : befores) {
                HeelHounds x = full();
                HeelHounds y = full();
                CHECKS.due("before", Checks.line(x, 0, 3, 5, 4, before) > 0, true);
                Checks.line(x, 0, 4, 4, 11, text);
                Checks.line(y, 0, 4, 4, 11, text);
                alike(text + " behind " + before, x, y, ofLines());
            }
        }
    }

    private static void lands() {
        String[] texts = {"~5,5:1x1", "a4,4:3x3=9", "~0,0:1x1;b6,5:1x1=1", "c1,1:9x9=0;~2,2:2x2"};
        String[] befores = {"~0,0:16x12", "h0,0:16x12=99", "a0,0:8x12=5;~8,0:8x12;d3,3:9x9=7"};
        for (String text : texts) {
            for (String before : befores) {
                HeelHounds x = full();
                HeelHounds y = full();
                CHECKS.due("before", Checks.land(x, before) > 0, true);
                Checks.land(x, text);
                Checks.land(y, text);
                alike(text + " behind " + before, x, y, ofLand());
                CHECKS.due("charges", x.charges(0, 0), y.charges(0, 0));
                CHECKS.due("LINES of LAND", x.count(5), y.count(5));
            }
        }
    }

    private static void laws() {
        String[] texts = {"e1+1+1+1+1(1=1)", "e1(1=1)", "es(s>1&a<99|[a+1]*2>s)", "r5(h=1);e1(1=1)", "x(h=4)"};
        String[] befores = {"e1(1=1);x(1=1)", "x(1=1);x(1=1);x(1=1)", "e1(1=1);r10(1=1)", "r10(1=1);e0(1=1)",
            "e1(1=1);" + "r10(1=1);".repeat(14) + "x(1=1)", "e1(1=1);e1(1=1);x(!(1=2));?"};
        for (String text : texts) {
            for (String before : befores) {
                HeelHounds x = full();
                HeelHounds y = full();
                Checks.law(x, before);
                Checks.law(x, text);
                Checks.law(y, text);
                alike(text + " behind " + before, x, y, ofHounds());
            }
        }
        // A RULE of the one before, were it left, would be asked by what now stands in its place.
        HeelHounds left = new HeelHounds();
        Checks.line(left, 0, 5, 5, 0, "r");
        left.hound(0, 5, 5);
        CHECKS.due("two RULES", Checks.law(left, "r1(1=2);e1+1(1=1)"), 2);
        CHECKS.due("HOME by e", left.tried(1, 1), 1);
        CHECKS.due("one RULE", Checks.law(left, "r0(1=2|5=5&7=7)"), 1);
        CHECKS.due("at fault without e", left.tried(1, 30), 1);
        // So many, one behind the other, that what any leaves would add up.
        HeelHounds x = new HeelHounds();
        x.hound(0, 0, 0);
        for (int i = 0; i < 100; i++) {
            CHECKS.due("law " + i, Checks.law(x, "x(t=" + i % 2 + "&1=1|t=9)"), 1);
            CHECKS.due("it holds, or not", x.tried(1, 2), 1 - i % 2);
            CHECKS.due("a FAULT between", Checks.law(x, "e1+1+1+1(1=1&"), -1013);
        }
    }

    private static void hounds() {
        HeelHounds x = full();
        HeelHounds y = full();
        x.hound(4, 15, 11);
        x.hound(4, 8, 5);
        y.hound(4, 8, 5);
        alike("HOUND 4 anew", x, y, ofHounds());
        String apart = Snapshot.difference(Snapshot.of(x), Snapshot.of(y));
        CHECKS.due("HOUND 4 anew: " + apart, apart.isEmpty(), true);
    }

    /** Each question is asked ahead of each other one; what is asked behind it is answered as if it had not been. */
    private static void questions() {
        List<ToIntFunction<HeelHounds>> asked = ofLines().subList(0, 46);
        asked.addAll(ofLand().subList(0, 11));
        asked.addAll(ofHounds());
        int[] due = new int[asked.size()];
        for (int i = 0; i < due.length; i++) {
            due[i] = asked.get(i).applyAsInt(ringed());
        }
        for (int i = 0; i < due.length; i++) {
            HeelHounds x = ringed();
            for (int j = 0; j < due.length; j++) {
                asked.get(i).applyAsInt(x);
                CHECKS.due("question " + j + " behind " + i, asked.get(j).applyAsInt(x), due[j]);
            }
        }
    }

    /** A full hunt whose LINE of CREATURE 7 holds much in, and that of CREATURE 0 has loops and stays at first. */
    private static HeelHounds ringed() {
        HeelHounds x = full();
        Checks.line(x, 7, 2, 2, 6, "7r6d7l6u");
        Checks.line(x, 0, 5, 5, 4, "2.2rdl2urddl7r4d");
        return x;
    }
}
