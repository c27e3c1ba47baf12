/** Promises 8 (land), 20 (charges), 21 (round), 27 (landAt). */
public final class LandTest {
    private static final Checks CHECKS = new Checks("LandTest");

    public static void main(String[] args) {
        lands();
        landFaults();
        landRefusals();
        charges();
        round();
        CHECKS.end();
    }

    private static int land(String text) {
        return Checks.land(new HeelHounds(), text);
    }

    private static void lands() {
        HeelHounds x = new HeelHounds();
        CHECKS.due("three", Checks.land(x, "a0,0:16x12=9;~03,04:02x02;h4,5:12x07=00"), 3);
        CHECKS.due("how many", x.count(5), 3);
        CHECKS.due("field", x.landAt(0, 0), 2);
        CHECKS.due("field at the end", x.landAt(15, 4), 2);
        CHECKS.due("water", x.landAt(3, 4), 1);
        CHECKS.due("water's last row", x.landAt(3, 5), 1);
        CHECKS.due("a later one lies over", x.landAt(4, 5), 9);
        CHECKS.due("last place", x.landAt(15, 11), 9);
        CHECKS.due("beside it", x.landAt(3, 11), 2);
        CHECKS.due("x 16", x.landAt(16, 0), -1);
        CHECKS.due("x -1", x.landAt(-1, 0), -1);
        CHECKS.due("y 12", x.landAt(0, 12), -1);
        CHECKS.due("y -1", x.landAt(0, -1), -1);
        CHECKS.due("in place of all before", Checks.land(x, "~1,1:1x1"), 1);
        CHECKS.due("nothing there now", x.landAt(0, 0), 0);
        CHECKS.due("how many now", x.count(5), 1);
        for (char field = 'a'; field <= 'h'; field++) {
            Checks.land(x, field + "7,7:1x1=1");
            CHECKS.due("field " + field, x.landAt(7, 7), 2 + field - 'a');
        }
    }

    private static void landFaults() {
        CHECKS.due("a blank", land("~ 0,0:1x1"), -1001);
        CHECKS.due("no Y", land("~0,"), -1003);
        CHECKS.due("no :", land("~0,0"), -1004);
        CHECKS.due("no wide", land("~0,0:"), -1005);
        CHECKS.due("no x", land("~0,0:1"), -1006);
        CHECKS.due("no high", land("~0,0:1x"), -1007);
        CHECKS.due("only a ;", land(";"), -1000);
        CHECKS.due("two of ;", land("~0,0:1x1;;"), -1009);
        CHECKS.due("X 16", land("~16,0:1x1"), -3001);
        CHECKS.due("X 99 ends by a wrong sign", land("~99~"), -3001);
        CHECKS.due("X 16 ends at the end", land("~16"), -3001);
        CHECKS.due("X has not ended at a third digit", land("~160"), -2003);
        CHECKS.due("third digit of Y", land("~0,011:1x1"), -2005);
        CHECKS.due("Y 12", land("~0,12:1x1"), -3003);
        CHECKS.due("wide 0", land("~0,0:00x1"), -3005);
        CHECKS.due("wide 17", land("~0,0:17x1"), -3005);
        CHECKS.due("wide 16", land("~0,0:16x1"), 1);
        CHECKS.due("wide beyond", land("~14,0:3x1"), -3006);
        CHECKS.due("third digit of wide", land("~0,0:001x1"), -2007);
        CHECKS.due("high 0", land("~0,0:1x0"), -3007);
        CHECKS.due("high 13", land("~0,0:1x13"), -3007);
        CHECKS.due("high beyond", land("b0,10:1x3=5"), -3008);
        CHECKS.due("high 12", land("~0,0:1x12"), 1);
        CHECKS.due("third digit of high", land("~0,0:1x011"), -2009);
        CHECKS.due("a field without =", land("c0,0:1x1,"), -1008);
        CHECKS.due("a field without pence", land("c0,0:1x1=;"), -1009);
        CHECKS.due("third digit of pence", land("c0,0:1x1=000"), -2011);
        CHECKS.due("pence 99", land("c0,0:1x1=99"), 1);
        CHECKS.due("what can't stand behind", land("c0,0:1x1=99~"), -1011);
        CHECKS.due("in the second", land("~0,0:1x1;a16,0:1x1=1"), -3010);
        String twelve = "~0,0:1x1;".repeat(12);
        CHECKS.due("twelve and a ;", land(twelve), -1108);
        CHECKS.due("a 13th", land(twelve + "a"), -4108);
        CHECKS.due("a 13th that can't stand", land(twelve + "z"), -1108);
    }

    private static void landRefusals() {
        HeelHounds x = new HeelHounds();
        Checks.land(x, "~1,1:1x1");
        Checks.feed(x, "~0,0:1x1");
        CHECKS.due("n 0", x.land(0), -1);
        CHECKS.due("n -1", x.land(-1), -1);
        CHECKS.due("n 21 of 20", x.land(21), -1);
        CHECKS.due("the tape stays", x.count(7), 20);
        CHECKS.due("a fault", x.land(7), -1007);
        CHECKS.due("empty then", x.count(7), 0);
        CHECKS.due("the one before stays", x.landAt(1, 1), 1);
        CHECKS.due("how many stays", x.count(5), 1);
        CHECKS.due("a fault behind one that stands", Checks.land(x, "~5,5:1x1;~"), -1010);
        CHECKS.due("the one before still stays", x.landAt(5, 5), 0);
        Checks.feed(x, "~".repeat(161));
        CHECKS.due("n 161", x.land(161), -1);
        CHECKS.due("n 160", x.land(160), -1001);
    }

    private static void charges() {
        HeelHounds x = new HeelHounds();
        Checks.line(x, 0, 0, 0, 0, "2r.2r");
        CHECKS.due("nothing", x.charges(0, 0), 0);
        CHECKS.due("no field", x.charges(0, 1), -2);
        CHECKS.due("nothing for it", x.charges(0, 2), 0);
        Checks.land(x, "g0,0:1x1=1");
        CHECKS.due("a penny", x.charges(0, 1), 6);
        CHECKS.due("a penny for it", x.charges(0, 2), 1);
        Checks.land(x, "a0,0:5x1=0");
        CHECKS.due("a field for nothing", x.charges(0, 1), -2);
        Checks.land(x, "c0,0:1x1=9;b2,0:1x1=10;~1,0:1x1;b3,0:1x1=7;e4,0:1x1=27;e9,9:1x1=99");
        // (0,0) 9, water, (2,0) twice 20, (3,0) 7, (4,0) 27: b and e are paid 27 each.
        CHECKS.due("all", x.charges(0, 0), 63);
        CHECKS.due("the first letter", x.charges(0, 1), 1);
        CHECKS.due("how much for it", x.charges(0, 2), 27);
        Checks.land(x, "a0,0:5x1=1;h4,0:1x1=50;~3,0:1x1");
        CHECKS.due("what lies on top", x.charges(0, 0), 54);
        CHECKS.due("the dearest", x.charges(0, 1), 7);
        CHECKS.due("what 3", x.charges(0, 3), -1);
        CHECKS.due("what -1", x.charges(0, -1), -1);
        CHECKS.due("no line", x.charges(1, 0), -1);
        CHECKS.due("creature -1", x.charges(-1, 0), -1);
    }

    private static void round() {
        HeelHounds x = new HeelHounds();
        CHECKS.due("corner to corner", x.round(0, 191), 26);
        CHECKS.due("to itself", x.round(77, 77), 0);
        CHECKS.due("from -1", x.round(-1, 0), -1);
        CHECKS.due("to 192", x.round(0, 192), -1);
        // A wall of water with a gap at the bottom.
        Checks.land(x, "~8,0:1x11");
        CHECKS.due("round the wall", x.round(Checks.place(7, 0), Checks.place(9, 0)), 24);
        CHECKS.due("from water", x.round(Checks.place(8, 0), 0), -2);
        CHECKS.due("to water", x.round(0, Checks.place(8, 0)), -2);
        CHECKS.due("water to itself", x.round(8, 8), -2);
        CHECKS.due("the edge is no way round", x.round(Checks.place(15, 3), Checks.place(0, 4)), 30);
        Checks.land(x, "~8,0:1x12");
        CHECKS.due("no way", x.round(0, 15), -2);
        Checks.land(x, "~8,0:1x12;a8,5:1x1=3");
        CHECKS.due("by a field over the water", x.round(Checks.place(7, 5), Checks.place(9, 5)), 2);
    }
}
