/** LAND's sentences, promises 8 (land) and 27 (landAt), each at its edge and just past it. */
public final class LandBoundsTest {
    private static final Checks CHECKS = new Checks("LandBoundsTest");
    private static final Bounds BOUNDS = new Bounds(CHECKS);

    public static void main(String[] args) {
        texts();
        faults();
        promise();
        CHECKS.end();
    }

    private static void texts() {
        BOUNDS.test("LAND: a TEXT of at most 160 bytes", LandBoundsTest::manyBytes);
        BOUNDS.test("no blanks (none at first): LINES with a ;", LandBoundsTest::noBlanks);
        BOUNDS.test("LINES with a ; (59) between two (12 at most)", LandBoundsTest::twelve);
        BOUNDS.test("~ (126: water) or a letter a to h (a FIELD)", LandBoundsTest::kinds);
        BOUNDS.test("(numbers of one or two digits; with , (44), : (58), x (120) between)", LandBoundsTest::between);
        BOUNDS.test("of a FIELD then = and a number of one or two digits (pence a time)", LandBoundsTest::pence);
        BOUNDS.test("Later LINES lie over those ahead.", LandBoundsTest::later);
        BOUNDS.test("X , Y : wide x high", LandBoundsTest::extent);
    }

    private static void faults() {
        BOUNDS.test("FAULTS: 1 what can't stand there (the end, too); 2 a third digit", LandBoundsTest::cantStand);
        BOUNDS.test("2 a third digit, at it", LandBoundsTest::thirdDigit);
        BOUNDS.test("3 X above 15", LandBoundsTest::boundOfX);
        BOUNDS.test("Y above 11", LandBoundsTest::boundOfY);
        BOUNDS.test("wide or high 0, beyond THE LAND", LandBoundsTest::boundsOfSize);
        BOUNDS.test("at the number's first digit (asked when it ends)", LandBoundsTest::whenItEnds);
        BOUNDS.test("4 a 13th LINE, at its first byte (if that can stand there)", LandBoundsTest::thirteenth);
        BOUNDS.test("FAULTS: 1 what can't stand there", LandBoundsTest::firstFromTheLeft);
    }

    private static void promise() {
        BOUNDS.test("LAND by the first n bytes of the tape (1 to 160; empty then)", LandBoundsTest::firstBytes);
        BOUNDS.test("In place of all before.", LandBoundsTest::inPlace);
        BOUNDS.test("how many LINES; a FAULT; NONE: no such n", LandBoundsTest::faultKeeps);
        BOUNDS.test("What lies on top at a PLACE: 0 nothing, 1 water, 2 to 9 a FIELD (a to h)",
            LandBoundsTest::onTop);
    }

    private static void due(String text, int want) {
        HeelHounds x = new HeelHounds();
        CHECKS.due("land " + text, Checks.land(x, text), want);
        CHECKS.due("count(5) then", x.count(5), Math.max(want, 0));
        CHECKS.due("the tape then", x.count(7), 0);
    }

    /** Six LINES of 15 bytes and five of 12, with ten ; between them: 160 bytes. */
    private static String longest() {
        return "a00,00:01x01=01;".repeat(6) + "h0,0:01x1=01;".repeat(4) + "h0,0:01x1=01";
    }

    private static void manyBytes() {
        CHECKS.due("so long it is", longest().length(), 160);
        due(longest(), 11);
        // One more digit: a text that would stand, were it not for its 161 bytes.
        HeelHounds x = new HeelHounds();
        Checks.feed(x, longest().substring(0, 156) + "01=01");
        CHECKS.due("161 bytes", x.land(161), -1);
        CHECKS.due("the tape stays", x.count(7), 180);
        CHECKS.due("LINES of LAND", x.count(5), 0);
        CHECKS.due("160 of them", x.land(160), 11);
    }

    private static void noBlanks() {
        due(" ~0,0:1x1", -1000);
        due("~ 0,0:1x1", -1001);
        due("~0 ,0:1x1", -1002);
        due("~0, 0:1x1", -1003);
        due("~0,0 :1x1", -1004);
        due("~0,0: 1x1", -1005);
        due("~0,0:1 x1", -1006);
        due("~0,0:1x 1", -1007);
        due("~0,0:1x1 ", -1008);
        due("a0,0:1x1 =1", -1008);
        due("a0,0:1x1= 1", -1009);
        due("~0,0:1x1; ~0,0:1x1", -1009);
    }

    private static void twelve() {
        for (int lines = 1; lines <= 12; lines++) {
            due("~0,0:1x1" + ";~0,0:1x1".repeat(lines - 1), lines);
        }
        due("~0,0:1x1" + ";~0,0:1x1".repeat(12), -4108);
        due("a0,0:1x1=1" + ";a0,0:1x1=1".repeat(11), 12);
        due("~0,0:1x1;~0,0:1x1;", -1018);
        due("~0,0:1x1;;~0,0:1x1", -1009);
        due(";~0,0:1x1", -1000);
        // Each byte there is between two of them.
        for (char sign = 0; sign < 256; sign++) {
            int want = sign == ';' ? 2 : sign >= '0' && sign <= '9' ? sign <= '2' ? -1009 : -3007 : -1008;
            due("~0,0:1x1" + sign + "~0,0:1x1", want);
        }
    }

    /** Each byte there is at the first place. */
    private static void kinds() {
        for (char sign = 0; sign < 256; sign++) {
            boolean isField = sign >= 'a' && sign <= 'h';
            due(sign + "0,0:1x1", sign == '~' ? 1 : isField ? -1008 : -1000);
            due(sign + "0,0:1x1=1", sign == '~' ? -1008 : isField ? 1 : -1000);
        }
    }

    /** Each byte there is behind each number but the last. */
    private static void between() {
        for (char sign = 0; sign < 256; sign++) {
            boolean isDigit = sign >= '0' && sign <= '9';
            due("~10" + sign + "10:2x2", sign == ',' ? 1 : isDigit ? -2003 : -1003);
            due("~10,10" + sign + "2x2", sign == ':' ? 1 : isDigit ? -2006 : -1006);
            due("~10,10:02" + sign + "2", sign == 'x' ? 1 : isDigit ? -2009 : -1009);
            due("a10,10:2x02" + sign + "2", sign == '=' ? 1 : isDigit ? -2011 : -1011);
        }
        due("~,0:1x1", -1001);
        due("~0,:1x1", -1003);
        due("~0,0:x1", -1005);
        due("~0,0:1x", -1007);
        due("~0,0:1x;", -1007);
        due("~00,00:01x01", 1);
        due("~0,0:1x1", 1);
    }

    private static void pence() {
        for (int pence = 0; pence < 100; pence++) {
            HeelHounds x = new HeelHounds();
            Checks.line(x, 0, 3, 3, 0, ".");
            CHECKS.due("pence " + pence, Checks.land(x, "c3,3:1x1=" + pence), 1);
            CHECKS.due("pence for two times", x.charges(0, 0), 2 * pence);
        }
        due("c3,3:1x1=00", 1);
        due("c3,3:1x1=09", 1);
        due("c3,3:1x1=100", -2011);
        due("c3,3:1x1=000", -2011);
        due("c3,3:1x1=", -1009);
        due("c3,3:1x1", -1008);
        due("~3,3:1x1=1", -1008);
    }

    private static void later() {
        HeelHounds x = new HeelHounds();
        Checks.land(x, "~2,2:3x3;b3,3:3x3=5;c5,5:1x1=2;~4,4:1x1");
        CHECKS.due("the first alone", x.landAt(2, 2), 1);
        CHECKS.due("the second over the first", x.landAt(3, 3), 3);
        CHECKS.due("the third over the second", x.landAt(5, 5), 4);
        CHECKS.due("the last over all", x.landAt(4, 4), 1);
        CHECKS.due("beside the last", x.landAt(4, 5), 3);
        Checks.land(x, "b3,3:1x1=5;b3,3:1x1=7");
        Checks.line(x, 0, 3, 3, 0, ".");
        CHECKS.due("pence of the later one", x.charges(0, 0), 14);
    }

    private static void covers(String text, int fromX, int fromY, int toX, int toY) {
        HeelHounds x = new HeelHounds();
        CHECKS.due("land " + text, Checks.land(x, text), 1);
        for (int place = 0; place < 192; place++) {
            int column = place % 16;
            int row = place / 16;
            boolean isCovered = column >= fromX && column <= toX && row >= fromY && row <= toY;
            CHECKS.due(text + " at " + column + "," + row, x.landAt(column, row), isCovered ? 1 : 0);
        }
    }

    private static void extent() {
        covers("~3,4:2x5", 3, 4, 4, 8);
        covers("~0,0:1x1", 0, 0, 0, 0);
        covers("~15,11:1x1", 15, 11, 15, 11);
        covers("~0,0:16x12", 0, 0, 15, 11);
        covers("~15,0:1x12", 15, 0, 15, 11);
        covers("~0,11:16x1", 0, 11, 15, 11);
        covers("~9,2:07x10", 9, 2, 15, 11);
    }

    /** A text that stands, cut at each place: the end can't stand there. */
    private static void cantStand() {
        String text = "a12,10:4x2=99";
        for (int n = 1; n < 12; n++) {
            due(text.substring(0, n), -1000 - n);
        }
        due(text.substring(0, 12), 1);
        due(text, 1);
        String water = "~0,0:1x1;~12,10:4x02";
        for (int n = 10; n < 19; n++) {
            due(water.substring(0, n), -1000 - n);
        }
        due(water.substring(0, 19), -3018);
        due(water, 2);
        due("A0,0:1x1=1", -1000);
        due("~-1,0:1x1", -1001);
    }

    private static void thirdDigit() {
        due("~000,0:1x1", -2003);
        due("~0,000:1x1", -2005);
        due("~0,0:001x1", -2007);
        due("~0,0:1x001", -2009);
        due("a0,0:1x1=001", -2011);
        due("~123", -2003);
        due("~0,0:1x1;~0,0:1x123456", -2018);
        due("~00,00:01x01", 1);
    }

    private static void boundOfX() {
        for (int x = 0; x < 100; x++) {
            due("~" + x + ",0:1x1", x <= 15 ? 1 : -3001);
        }
        for (int x = 0; x < 10; x++) {
            due("~0" + x + ",0:1x1", 1);
        }
    }

    private static void boundOfY() {
        for (int y = 0; y < 100; y++) {
            due("~0," + y + ":1x1", y <= 11 ? 1 : -3003);
            due("~10," + y + ":1x1", y <= 11 ? 1 : -3004);
        }
    }

    private static void boundsOfSize() {
        for (int size = 0; size < 100; size++) {
            for (int at = 0; at < 16; at++) {
                boolean stands = size > 0 && at + size <= 16;
                due("~" + at + ",0:" + size + "x1", stands ? 1 : at < 10 ? -3005 : -3006);
            }
            for (int at = 0; at < 12; at++) {
                boolean stands = size > 0 && at + size <= 12;
                due("~0," + at + ":1x" + size, stands ? 1 : at < 10 ? -3007 : -3008);
            }
        }
        due("~0,0:00x1", -3005);
        due("~0,0:1x00", -3007);
        due("~0,0:01x01", 1);
    }

    private static void whenItEnds() {
        // It ends at whatever is no digit, and at the end; a third digit is asked ahead of that.
        due("~16", -3001);
        due("~16;", -3001);
        due("~99 ", -3001);
        due("~0,12", -3003);
        due("~0,12x", -3003);
        due("~0,0:0", -3005);
        due("~0,0:17:", -3005);
        due("~0,0:1x0", -3007);
        due("~0,0:1x13;", -3007);
        due("~160", -2003);
        due("~0,120", -2005);
        due("~0,0:000", -2007);
        due("~0,0:1x130", -2009);
        // One digit has not ended where a second comes.
        due("~0,0:01x1", 1);
        due("~15,0:1x1", 1);
        due("~15,0:10x1", -3006);
    }

    private static void thirteenth() {
        String twelve = "~0,0:1x1;".repeat(12);
        for (char sign = 0; sign < 256; sign++) {
            boolean canStand = sign == '~' || sign >= 'a' && sign <= 'h';
            due(twelve + sign, canStand ? -4108 : -1108);
        }
        due(twelve, -1108);
        due(twelve + "~99", -4108);
        due(twelve.substring(0, 107), 12);
    }

    private static void firstFromTheLeft() {
        due("~16,12:0x0", -3001);
        due("~15,12:0x0", -3004);
        due("~15,11:0x0", -3007);
        due("~15,11:1x0", -3009);
        due("?~16,0:1x1", -1000);
        due("~16,000:1x1", -3001);
        due("~000,12:1x1", -2003);
        due("~0,0:1x1;~16,0:1x1;?", -3010);
        due("~0,0:1x1;?;~16,0:1x1", -1009);
    }

    private static void firstBytes() {
        HeelHounds x = new HeelHounds();
        CHECKS.due("of an empty tape", x.land(1), -1);
        Checks.feed(x, "~0,0:1x1;~1,01:01x01");
        CHECKS.due("n 0", x.land(0), -1);
        CHECKS.due("n -1", x.land(-1), -1);
        CHECKS.due("n 21 of 20", x.land(21), -1);
        CHECKS.due("the tape stays", x.count(7), 20);
        CHECKS.due("n 20 of 20", x.land(20), 2);
        CHECKS.due("empty then", x.count(7), 0);
        CHECKS.due("the last byte counts", x.landAt(1, 1), 1);
        Checks.feed(x, "~0,0:1x1;~1,1:1x1");
        CHECKS.due("n 8: no more than the first", x.land(8), 1);
        CHECKS.due("empty of the others, too", x.count(7), 0);
        CHECKS.due("nothing is left of them", x.land(1), -1);
        Checks.feed(x, "~");
        CHECKS.due("n 1", x.land(1), -1001);
    }

    private static void inPlace() {
        HeelHounds x = new HeelHounds();
        Checks.land(x, "~0,0:16x12;a5,5:2x2=9");
        CHECKS.due("a smaller one", Checks.land(x, "b1,1:1x1=3"), 1);
        CHECKS.due("LINES of LAND", x.count(5), 1);
        for (int place = 0; place < 192; place++) {
            CHECKS.due("landAt " + place, x.landAt(place % 16, place / 16), place == 17 ? 3 : 0);
        }
        Checks.line(x, 0, 5, 5, 0, ".");
        CHECKS.due("nothing is paid where a was", x.charges(0, 0), 0);
        CHECKS.due("a way where water was", x.round(0, 191), 26);
    }

    private static void faultKeeps() {
        HeelHounds x = new HeelHounds();
        Checks.land(x, "~0,0:1x1;a5,5:2x2=9");
        Checks.line(x, 0, 5, 5, 0, ".");
        String[] ends = {"?", "0,000", "99,", "0,0:0x"};
        int[] faults = {-1023, -2027, -3023, -3027};
        for (int i = 0; i < faults.length; i++) {
            String text = "c5,5:2x2=1;~0,0:16x01;~" + ends[i];
            CHECKS.due("a FAULT behind what stands " + text, Checks.land(x, text), faults[i]);
            CHECKS.due("the tape is empty", x.count(7), 0);
            CHECKS.due("LINES of LAND stay", x.count(5), 2);
            CHECKS.due("water stays", x.landAt(0, 0), 1);
            CHECKS.due("nothing comes", x.landAt(1, 0), 0);
            CHECKS.due("a FIELD stays", x.landAt(6, 6), 2);
            CHECKS.due("pence stay", x.charges(0, 0), 18);
        }
        CHECKS.due("a 13th LINE", Checks.land(x, "~0,0:1x1;".repeat(12) + "~"), -4108);
        CHECKS.due("LINES of LAND stay", x.count(5), 2);
        CHECKS.due("a FIELD stays", x.landAt(5, 5), 2);
    }

    private static void onTop() {
        HeelHounds x = new HeelHounds();
        Checks.land(x, "~1,0:1x1;a2,0:1x1=1;b3,0:1x1=1;c4,0:1x1=1;d5,0:1x1=1;e6,0:1x1=1;f7,0:1x1=1;g8,0:1x1=1;"
            + "h9,0:1x1=0");
        for (int column = 0; column < 10; column++) {
            CHECKS.due("landAt " + column, x.landAt(column, 0), column);
        }
        CHECKS.due("the last PLACE", x.landAt(15, 11), 0);
        CHECKS.due("X -1", x.landAt(-1, 0), -1);
        CHECKS.due("X 16", x.landAt(16, 0), -1);
        CHECKS.due("Y -1", x.landAt(1, -1), -1);
        CHECKS.due("Y 12", x.landAt(1, 12), -1);
    }
}
