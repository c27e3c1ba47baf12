import java.util.function.ToIntBiFunction;

/**
 * "A call that is refused (NONE, false) changes nothing but the tape, where it is told": each call with each number
 * at its least and most, which it takes, and just past them, which it refuses; a refused one is followed by many
 * questions, asked of a twin as well that was never asked it.
 */
public final class RefusalTest {
    private static final Checks CHECKS = new Checks("RefusalTest");
    private static final Bounds BOUNDS = new Bounds(CHECKS);

    /** A call with its numbers; a boolean counts 1 or 0. */
    private interface Call extends ToIntBiFunction<HeelHounds, int[]> {
    }

    public static void main(String[] args) {
        twins();
        tellingCalls();
        askingCalls();
        textCalls();
        momentCalls();
        CHECKS.end();
    }

    private static void twins() {
        String one = Snapshot.of(Snapshot.full());
        CHECKS.due("twins answer alike", one.equals(Snapshot.of(Snapshot.full())), true);
        HeelHounds other = Snapshot.full();
        other.seed(5);
        CHECKS.due("and not if one was told more", one.equals(Snapshot.of(other)), false);
    }

    /** A call that answers the refusal, and answers all as before then. */
    private static void refused(String call, Call asked, int due, int... given) {
        HeelHounds x = Snapshot.full();
        String name = call + java.util.Arrays.toString(given);
        CHECKS.due(name, asked.applyAsInt(x, given), due);
        String apart = Snapshot.difference(Snapshot.of(x), Snapshot.of(Snapshot.full()));
        CHECKS.due(name + " changes nothing: " + apart, apart.isEmpty(), true);
    }

    private static void taken(String call, Call asked, int refusal, int... given) {
        int got = asked.applyAsInt(Snapshot.full(), given);
        CHECKS.due(call + java.util.Arrays.toString(given) + " is taken", got != refusal, true);
    }

    /** Each number at its bounds and past them, all others as in usual, which the call takes. */
    private static void ranged(String call, Call asked, int refusal, int[] usual, int[]... ranges) {
        taken(call, asked, refusal, usual);
        for (int i = 0; i < ranges.length; i++) {
            int least = ranges[i][0];
            int most = ranges[i][1];
            taken(call, asked, refusal, with(usual, i, least));
            taken(call, asked, refusal, with(usual, i, most));
            for (int past : new int[] {least - 1, most + 1, Integer.MIN_VALUE, Integer.MAX_VALUE}) {
                refused(call, asked, refusal, with(usual, i, past));
            }
        }
    }

    private static int[] with(int[] usual, int i, int number) {
        int[] numbers = usual.clone();
        numbers[i] = number;
        return numbers;
    }

    private static int[] range(int least, int most) {
        return new int[] {least, most};
    }

    private static int[] numbers(int... numbers) {
        return numbers;
    }

    private static void tellingCalls() {
        BOUNDS.test("A HOUND at a PLACE (in place of the one before): true; false: no such ones.", () ->
            ranged("hound", (x, a) -> x.hound(a[0], a[1], a[2]) ? 1 : 0, 0, numbers(2, 3, 3),
                range(0, 5), range(0, 15), range(0, 11)));
        BOUNDS.test("FADING: true; false: no such number.", () ->
            ranged("fading", (x, a) -> x.fading(a[0]) ? 1 : 0, 0, numbers(4), range(0, 9)));
        BOUNDS.test("THE TIME (no earlier than it is, to 9999): true; false: no such one.", () ->
            ranged("time", (x, a) -> x.time(a[0]) ? 1 : 0, 0, numbers(50), range(34, 9999)));
        BOUNDS.test("THE SEED (0 to 65535; X, too): true; false: no such number.", () ->
            ranged("seed", (x, a) -> x.seed(a[0]) ? 1 : 0, 0, numbers(9), range(0, 65535)));
    }

    private static void askingCalls() {
        Call houndIs = (x, a) -> x.houndIs(a[0], a[1]);
        BOUNDS.test("3 RUNNING 0, HOME 1, LOST 2; NONE for others.", () -> {
            ranged("houndIs", houndIs, -1, numbers(4, 1), range(0, 5), range(0, 3));
            refused("houndIs of one not told", houndIs, -1, 2, 0);
        });
        Call where = (x, a) -> x.where(a[0], a[1]);
        BOUNDS.test("-2: it is not there then; NONE: no such ones.", () -> {
            ranged("where", where, -1, numbers(2, 9), range(0, 7), range(0, 20000));
            refused("where of one without a LINE", where, -1, 1, 9);
        });
        BOUNDS.test("-2 (of 0, 1): none; NONE: no such ones.", () ->
            ranged("freshest", (x, a) -> x.freshest(a[0], a[1], a[2]), -1, numbers(6, 5, 0),
                range(0, 15), range(0, 11), range(0, 2)));
        BOUNDS.test("what 0 the PLACE (16 Y and X; nobody is there: -2), 1 how many; NONE: no such ones.", () ->
            ranged("crowd", (x, a) -> x.crowd(a[0], a[1]), -1, numbers(12, 1), range(0, 20000), range(0, 1)));
        BOUNDS.test("-2: no way, one is water; NONE: no such ones.", () ->
            ranged("round", (x, a) -> x.round(a[0], a[1]), -1, numbers(5, 9), range(0, 191), range(0, 191)));
        Call cast = (x, a) -> x.cast(a[0]);
        BOUNDS.test("CAST of a told HOUND; -2: nowhere; NONE: no such one.", () -> {
            ranged("cast", cast, -1, numbers(1), range(0, 5));
            refused("cast of one not told", cast, -1, 2);
            refused("cast of another not told", cast, -1, 3);
        });
        BOUNDS.test("PLACES with a SCENT of STRENGTH s (1 to 99) at least; NONE: no such number.", () ->
            ranged("huntable", (x, a) -> x.huntable(a[0]), -1, numbers(50), range(1, 99)));
        BOUNDS.test("2 to 9 a FIELD (a to h); NONE: no such one.", () ->
            ranged("landAt", (x, a) -> x.landAt(a[0], a[1]), -1, numbers(3, 3), range(0, 15), range(0, 11)));
        BOUNDS.test("7 bytes of the tape, 8 X. NONE for others.", () ->
            ranged("count", (x, a) -> x.count(a[0]), -1, numbers(4), range(0, 8)));
        askingOfLines();
    }

    private static void askingOfLines() {
        Call two = (x, a) -> x.two(a[0], a[1], a[2]);
        BOUNDS.test("3 when (-2 of both: never both there); NONE: no such ones.", () -> {
            ranged("two", two, -1, numbers(0, 7, 0), range(0, 2), range(2, 7), range(0, 3));
            ranged("two", two, -1, numbers(7, 0, 0), range(7, 7), range(0, 0));
            refused("two with one without a LINE", two, -1, 0, 6, 0);
            refused("two with one without a LINE ahead", two, -1, 1, 0, 0);
            refused("two of the same", two, -1, 2, 2, 0);
            refused("two of the same without a LINE", two, -1, 3, 3, 0);
        });
        Call together = (x, a) -> x.together(a[0], a[1], a[2]);
        BOUNDS.test("so many steps (0 to 26); NONE: no such ones.", () -> {
            ranged("together", together, -1, numbers(2, 0, 5), range(2, 7), range(0, 0), range(0, 26));
            ranged("together", together, -1, numbers(0, 7, 5), range(0, 0), range(7, 7));
            refused("together with one without a LINE", together, -1, 0, 6, 0);
            refused("together with one without a LINE ahead", together, -1, 1, 0, 0);
            refused("together of the same", together, -1, 2, 2, 0);
        });
        BOUNDS.test("1 at how many times, 2 TWICE; NONE: no such ones.", () -> {
            Call stayed = (x, a) -> x.stayed(a[0], a[1]);
            ranged("stayed", stayed, -1, numbers(2, 1), range(0, 7), range(0, 2));
            refused("stayed of one without a LINE", stayed, -1, 1, 0);
        });
        BOUNDS.test("else the one at place what (0 to 96); -4: no such place; NONE: no such ones.", () -> {
            Call unlooped = (x, a) -> x.unlooped(a[0], a[1]);
            ranged("unlooped", unlooped, -1, numbers(2, 1), range(0, 7), range(0, 96));
            ranged("unlooped: how many", unlooped, -1, numbers(2, 100), range(0, 7), range(100, 100));
            refused("unlooped of one without a LINE", unlooped, -1, 1, 0);
            refused("unlooped: how many of one without a LINE", unlooped, -1, 1, 100);
        });
        BOUNDS.test("1 the FIELD (0 to 7; nothing is paid: -2), 2 how much for that; NONE: no such ones.", () -> {
            Call charges = (x, a) -> x.charges(a[0], a[1]);
            ranged("charges", charges, -1, numbers(2, 0), range(0, 7), range(0, 2));
            refused("charges of one without a LINE", charges, -1, 1, 0);
        });
        BOUNDS.test("HELD IN by a CREATURE with a LINE; NONE: no such one.", () -> {
            Call heldIn = (x, a) -> x.heldIn(a[0]);
            ranged("heldIn", heldIn, -1, numbers(2), range(0, 7));
            refused("heldIn of one without a LINE", heldIn, -1, 1);
        });
        BOUNDS.test("7 the PLACE at which it is then (16 Y and X); NONE: no such ones.", () -> {
            Call lineIs = (x, a) -> x.lineIs(a[0], a[1]);
            ranged("lineIs", lineIs, -1, numbers(2, 0), range(0, 7), range(0, 7));
            refused("lineIs of one without a LINE", lineIs, -1, 1, 0);
        });
    }

    /** The tape holds 40 bytes that are a LINE, but neither LAND nor a LAW, nor finds on THE LAND. */
    private static void textCalls() {
        BOUNDS.test("NONE: no such ones, it has not so many (the tape stays).", () -> {
            Call line = (x, a) -> x.line(a[0], a[1], a[2], a[3], a[4]);
            ranged("line", line, -1, numbers(3, 5, 5, 70, 9),
                range(0, 7), range(0, 15), range(0, 11), range(0, 9999), range(1, 40));
            Call couldBe = (x, a) -> x.couldBe(a[0], a[1]);
            ranged("couldBe", couldBe, -1, numbers(2, 5), range(1, 10), range(0, 99));
            // Three times this is 2, as the machine reckons.
            refused("couldBe", couldBe, -1, 1431655766, 0);
        });
        BOUNDS.test("a FAULT: -1000 times its number, less its place (the one before stays); NONE: no such n, it has "
            + "not so many (the tape stays).", () ->
            ranged("law", (x, a) -> x.law(a[0]), -1, numbers(9), range(1, 40)));
        BOUNDS.test("how many LINES; a FAULT; NONE: no such n, it has not so many (the tape stays).", () ->
            ranged("land", (x, a) -> x.land(a[0]), -1, numbers(9), range(1, 40)));
        BOUNDS.test("-2: no such n, it has not so many (the tape stays).", () ->
            ranged("check", (x, a) -> x.check(a[0]), -2, numbers(3), range(0, 6)));
    }

    private static void momentCalls() {
        BOUNDS.test("how many are RUNNING then; NONE: no such n.", () ->
            ranged("moments", (x, a) -> x.moments(a[0]), -1, numbers(5), range(1, 100)));
        Call tried = (x, a) -> x.tried(a[0], a[1]);
        BOUNDS.test("FAULTS of told HOUND h then; NONE: no such ones.", () -> {
            ranged("tried", tried, -1, numbers(5, 1), range(1, 100), range(0, 2));
            for (int kind = 10; kind <= 30; kind += 10) {
                ranged("tried of a HOUND", tried, -1, numbers(5, kind), range(1, 100), range(kind, kind + 1));
                ranged("tried of a HOUND", tried, -1, numbers(5, kind + 4), range(1, 100), range(kind + 4, kind + 5));
                refused("tried of none", tried, -1, 5, kind - 2);
                refused("tried of none", tried, -1, 5, kind - 3);
                refused("tried of HOUND 7", tried, -1, 5, kind + 7);
            }
            refused("tried of none", tried, -1, 5, 40);
        });
        BOUNDS.test("what 0 behind how many (0: one is), 1 who; -2: none; NONE: no such ones.", () ->
            ranged("firstHome", (x, a) -> x.firstHome(a[0], a[1]), -1, numbers(5, 1), range(1, 100), range(0, 1)));
    }
}
