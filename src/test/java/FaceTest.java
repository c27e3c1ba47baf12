import java.lang.reflect.Constructor;
import java.lang.reflect.Field;
import java.lang.reflect.Method;
import java.lang.reflect.Modifier;
import java.util.Arrays;
import java.util.Set;
import java.util.TreeSet;

/** The public face, promise 1 (a new object), an object's 512 calls, and that objects share nothing. */
public final class FaceTest {
    private static final Checks CHECKS = new Checks("FaceTest");
    private static final Bounds BOUNDS = new Bounds(CHECKS);

    public static void main(String[] args) {
        BOUNDS.test("public final class HeelHounds {", FaceTest::face);
        BOUNDS.test("The constants: `NONE = -1`: There is none.", () -> CHECKS.due("NONE", HeelHounds.NONE, -1));
        BOUNDS.test("No LINES, LAND, HOUNDS, LAW; THE SEED 1.", FaceTest::newObject);
        BOUNDS.test("each with a LINE or none (at first)", FaceTest::noLines);
        BOUNDS.test("no blanks (none at first): LINES with a ; (59) between two (12 at most)", FaceTest::noLand);
        BOUNDS.test("no blanks (none at first): RULES (16 at most)", FaceTest::noLaw);
        BOUNDS.test("HOUNDS 0 to 5: told or not", FaceTest::noHounds);
        BOUNDS.test("THE TIME (0 at first).", () -> CHECKS.due("THE TIME", new HeelHounds().count(0), 0));
        BOUNDS.test("FADING (0 to 9; 1 at first).", FaceTest::firstFading);
        BOUNDS.test("X is THE SEED at first, 1", FaceTest::firstSeed);
        BOUNDS.test("UNDONE: true; false: none was KEPT.", FaceTest::nothingKept);
        BOUNDS.test("An object is used for at most 512 calls after it has been made", FaceTest::lastCall);
        BOUNDS.test("All memory is the hunt's own.", FaceTest::ownMemory);
        CHECKS.end();
    }

    private static void face() {
        String[] due = {"boolean hound(3)", "boolean fading(1)", "boolean time(1)", "int feed(5)", "int law(1)",
            "int line(5)", "int land(1)", "int moments(1)", "int tried(2)", "int houndIs(2)", "int where(2)",
            "int freshest(3)", "int firstHome(2)", "int two(3)", "int together(3)", "int crowd(2)", "int stayed(2)",
            "int unlooped(2)", "int charges(2)", "int round(2)", "int cast(1)", "int huntable(1)", "int couldBe(2)",
            "int heldIn(1)", "int lineIs(2)", "int landAt(2)", "boolean seed(1)", "int keep(0)", "boolean undo(0)",
            "int check(1)", "int count(1)"};
        Set<String> open = new TreeSet<>();
        for (Method method : HeelHounds.class.getDeclaredMethods()) {
            if (!Modifier.isPrivate(method.getModifiers())) {
                boolean isOpen = Modifier.isPublic(method.getModifiers()) && !Modifier.isStatic(method.getModifiers());
                CHECKS.due(method.getName() + " is public and no static one", isOpen, true);
                boolean takesInts = Arrays.stream(method.getParameterTypes()).allMatch(type -> type == int.class);
                CHECKS.due(method.getName() + " takes ints", takesInts, true);
                open.add(method.getReturnType() + " " + method.getName() + "(" + method.getParameterCount() + ")");
            }
        }
        CHECKS.due("methods " + open, open.equals(new TreeSet<>(Arrays.asList(due))), true);
        for (Field field : HeelHounds.class.getDeclaredFields()) {
            boolean isNone = field.getName().equals("NONE");
            CHECKS.due("public " + field.getName(), Modifier.isPublic(field.getModifiers()), isNone);
            CHECKS.due("private " + field.getName(), Modifier.isPrivate(field.getModifiers()), !isNone);
        }
        Constructor<?>[] constructors = HeelHounds.class.getDeclaredConstructors();
        CHECKS.due("constructors", constructors.length, 1);
        CHECKS.due("its parameters", constructors[0].getParameterCount(), 0);
        CHECKS.due("it is public", Modifier.isPublic(constructors[0].getModifiers()), true);
        CHECKS.due("the class is public", Modifier.isPublic(HeelHounds.class.getModifiers()), true);
        CHECKS.due("the class is final", Modifier.isFinal(HeelHounds.class.getModifiers()), true);
    }

    private static void newObject() {
        HeelHounds x = new HeelHounds();
        int[] due = {0, 0, 0, 0, 1, 0, 0, 0, 1};
        for (int what = 0; what < due.length; what++) {
            CHECKS.due("count(" + what + ")", x.count(what), due[what]);
        }
        CHECKS.due("huntable", x.huntable(1), 0);
        CHECKS.due("freshest", x.freshest(0, 0, 0), -2);
        CHECKS.due("crowd", x.crowd(0, 0), -2);
        CHECKS.due("firstHome", x.firstHome(100, 1), -2);
        CHECKS.due("tried RUNNING", x.tried(100, 0), 0);
        CHECKS.due("tried HOME", x.tried(100, 1), 0);
        CHECKS.due("tried LOST", x.tried(100, 2), 0);
        CHECKS.due("moments", x.moments(100), 0);
        CHECKS.due("THE TIME goes on", x.count(0), 100);
        CHECKS.due("nobody draws", x.count(8), 1);
    }

    private static void noLines() {
        HeelHounds x = new HeelHounds();
        for (int c = 0; c < 8; c++) {
            CHECKS.due("where", x.where(c, 0), -1);
            CHECKS.due("stayed", x.stayed(c, 0), -1);
            CHECKS.due("unlooped", x.unlooped(c, 100), -1);
            CHECKS.due("charges", x.charges(c, 0), -1);
            CHECKS.due("heldIn", x.heldIn(c), -1);
            CHECKS.due("lineIs", x.lineIs(c, 0), -1);
            CHECKS.due("two", x.two(c, 7 - c, 0), -1);
            CHECKS.due("together", x.together(c, 7 - c, 26), -1);
        }
        CHECKS.due("CREATURES with LINES", x.count(3), 0);
        x.feed(0, 0, 0, 0, 0);
        CHECKS.due("none could it be", x.couldBe(1, 99), 0);
    }

    private static void noLand() {
        HeelHounds x = new HeelHounds();
        for (int place = 0; place < 192; place++) {
            CHECKS.due("landAt", x.landAt(place % 16, place / 16), 0);
        }
        CHECKS.due("LINES of LAND", x.count(5), 0);
        CHECKS.due("from end to end", x.round(0, 191), 26);
        Checks.line(x, 0, 0, 0, 0, "9r");
        CHECKS.due("nothing is paid", x.charges(0, 0), 0);
        CHECKS.due("for nothing", x.charges(0, 1), -2);
    }

    /** Without an e nothing is liked, without an r nobody is at fault by it, without an x nobody gives up. */
    private static void noLaw() {
        HeelHounds x = new HeelHounds();
        CHECKS.due("RULES", x.count(6), 0);
        Checks.line(x, 0, 5, 5, 0, ".");
        x.hound(0, 5, 5);
        CHECKS.due("RUNNING", x.moments(1), 1);
        CHECKS.due("FAULTS", x.houndIs(0, 2), 1);
        CHECKS.due("TIME HE IS AT", x.houndIs(0, 1), 10000);
    }

    private static void noHounds() {
        HeelHounds x = new HeelHounds();
        for (int h = 0; h < 6; h++) {
            for (int what = 0; what < 4; what++) {
                CHECKS.due("houndIs", x.houndIs(h, what), -1);
            }
            CHECKS.due("cast", x.cast(h), -1);
            CHECKS.due("tried PLACE", x.tried(1, 10 + h), -1);
            CHECKS.due("tried TIME HE IS AT", x.tried(1, 20 + h), -1);
            CHECKS.due("tried FAULTS", x.tried(1, 30 + h), -1);
        }
        CHECKS.due("told HOUNDS", x.count(1), 0);
        CHECKS.due("RUNNING HOUNDS", x.count(2), 0);
        x.feed(-1, -1, -1, -1, -1);
        CHECKS.due("255 for each", x.check(6), -1);
    }

    /** AGE 98 has STRENGTH 1 and AGE 99 none only if FADING is 1. */
    private static void firstFading() {
        HeelHounds x = new HeelHounds();
        CHECKS.due("count(4)", x.count(4), 1);
        Checks.line(x, 0, 5, 5, 0, "r");
        x.time(98);
        CHECKS.due("STRENGTH 1", x.freshest(5, 5, 2), 1);
        x.time(99);
        CHECKS.due("STRENGTH 0", x.freshest(5, 5, 2), 0);
    }

    private static void firstSeed() {
        HeelHounds x = new HeelHounds();
        CHECKS.due("X", x.count(8), 1);
        x.hound(0, 0, 0);
        x.moments(1);
        CHECKS.due("25173 and 13849", x.count(8), 39022);
    }

    private static void nothingKept() {
        HeelHounds x = new HeelHounds();
        x.time(7);
        x.hound(3, 4, 5);
        x.seed(9);
        CHECKS.due("undo", x.undo(), false);
        CHECKS.due("THE TIME stays", x.count(0), 7);
        CHECKS.due("HOUNDS stay", x.houndIs(3, 0), Checks.place(4, 5));
        CHECKS.due("X stays", x.count(8), 9);
        CHECKS.due("keep", x.keep(), 7);
        CHECKS.due("undo then", x.undo(), true);
    }

    private static void lastCall() {
        HeelHounds seeds = new HeelHounds();
        for (int call = 1; call < 512; call++) {
            seeds.seed(call);
        }
        CHECKS.due("the 512th call: X", seeds.count(8), 511);
        HeelHounds lines = new HeelHounds();
        for (int call = 1; call + 1 < 512; call += 2) {
            lines.feed(0x39722e2e, 0, 0, 0, 0);
            CHECKS.due("a LINE", lines.line(call % 8, 0, 0, call, 2), 9);
        }
        lines.feed(0, 0, 0, 0, 0);
        CHECKS.due("the 512th call: bytes", lines.count(7), 20);
        HeelHounds hunts = new HeelHounds();
        for (int call = 1; call + 2 < 512; call += 3) {
            hunts.hound(call % 6, 3, 3);
            hunts.keep();
            hunts.moments(50);
        }
        CHECKS.due("the 511th call: UNDONE", hunts.undo(), true);
        CHECKS.due("the 512th call: THE TIME", hunts.count(0), 169 * 50);
    }

    private static void ownMemory() {
        HeelHounds quiet = new HeelHounds();
        HeelHounds busy = Snapshot.full();
        HeelHounds later = new HeelHounds();
        String due = Snapshot.of(new HeelHounds());
        CHECKS.due("one made ahead of it", Snapshot.of(quiet).equals(due), true);
        CHECKS.due("one made behind it", Snapshot.of(later).equals(due), true);
        String apart = Snapshot.difference(Snapshot.of(busy), Snapshot.of(Snapshot.full()));
        CHECKS.due("the one between both: " + apart, apart.isEmpty(), true);
    }
}
