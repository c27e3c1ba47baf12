/** THE LAW as a text and promise 6 (law): each sentence at its edge and just past it. */
public final class LawBoundsTest {
    private static final Checks CHECKS = new Checks("LawBoundsTest");
    private static final Bounds BOUNDS = new Bounds(CHECKS);
    private static final String LETTERS = "hcasgfnt";

    public static void main(String[] args) {
        texts();
        faults();
        promise();
        CHECKS.end();
    }

    private static void texts() {
        BOUNDS.test("THE LAW: a TEXT of at most 240 bytes", LawBoundsTest::manyBytes);
        BOUNDS.test("no blanks (none at first): RULES", LawBoundsTest::noBlanks);
        BOUNDS.test("RULES (16 at most) with a ; (59) between two", LawBoundsTest::sixteen);
        BOUNDS.test("a letter, E, and (C), of x only (C)", LawBoundsTest::kinds);
        BOUNDS.test("C: PARTS with a | between two, one of which must hold; a PART: TESTS with an & between two",
            LawBoundsTest::betweenTests);
        BOUNDS.test("a TEST: !TEST, (C), or E, one of < > =, and E", LawBoundsTest::tests);
        BOUNDS.test("E: TERMS with + or - between two; a TERM: FACTORS with one of * / % between two",
            LawBoundsTest::betweenFactors);
        BOUNDS.test("a FACTOR: [E], a number of one to five digits, or a letter", LawBoundsTest::factors);
    }

    private static void faults() {
        BOUNDS.test("FAULTS, the first from the left: 1 what can't stand there (the end, too); 2 a sixth digit",
            LawBoundsTest::cantStand);
        BOUNDS.test("2 a sixth digit, at it", LawBoundsTest::sixthDigit);
        BOUNDS.test("4 a 17th RULE, at its letter (if that can stand there)", LawBoundsTest::seventeenth);
        BOUNDS.test("5 a seventh of ( [ ! that are open in one another, at it", LawBoundsTest::seventh);
        BOUNDS.test("(the ( of the RULE counts;", LawBoundsTest::openingOfRule);
        BOUNDS.test("a ! is open till its TEST ends", LawBoundsTest::openNot);
        BOUNDS.test("the E of a RULE stands ahead of it", LawBoundsTest::worthStandsAhead);
        BOUNDS.test("FAULTS, the first from the left", LawBoundsTest::firstFromTheLeft);
    }

    private static void promise() {
        BOUNDS.test("THE LAW by the first n bytes of the tape (1 to 240; empty then)", LawBoundsTest::firstBytes);
        BOUNDS.test("in place of the one before: how many RULES", LawBoundsTest::inPlace);
        BOUNDS.test("a FAULT: -1000 times its number, less its place (the one before stays)",
            LawBoundsTest::faultKeeps);
    }

    private static void due(String text, int want) {
        HeelHounds x = new HeelHounds();
        CHECKS.due("law " + text, Checks.law(x, text), want);
        CHECKS.due("count(6) then", x.count(6), Math.max(want, 0));
        CHECKS.due("the tape then", x.count(7), 0);
    }

    private static boolean isDigit(char sign) {
        return sign >= '0' && sign <= '9';
    }

    private static void manyBytes() {
        String longest = "e10" + "+1".repeat(116) + "(1=1)";
        CHECKS.due("so long it is", longest.length(), 240);
        due(longest, 1);
        due("e10" + "+1".repeat(116) + "(1=1", -1239);
        HeelHounds x = new HeelHounds();
        // A text that would stand, were it not for its 241 bytes.
        Checks.feed(x, "e100" + "+1".repeat(116) + "(1=1)");
        CHECKS.due("241 bytes", x.law(241), -1);
        CHECKS.due("the tape stays", x.count(7), 260);
        CHECKS.due("RULES", x.count(6), 0);
        CHECKS.due("240 of them", x.law(240), -1240);
    }

    private static void noBlanks() {
        due(" e1(1=1)", -1000);
        due("e 1(1=1)", -1001);
        due("e1 (1=1)", -1002);
        due("e1( 1=1)", -1003);
        due("e1(1 =1)", -1004);
        due("e1(1= 1)", -1005);
        due("e1(1=1 )", -1006);
        due("e1(1=1) ", -1007);
        due("e1(1=1); x(1=1)", -1008);
        due("e1+ 1(1=1)", -1003);
        due("e[ 1](1=1)", -1002);
        due("x(! 1=1)", -1003);
        due("x(1=1& 1=1)", -1006);
    }

    private static void sixteen() {
        for (int rules = 1; rules <= 16; rules++) {
            due("x(1=1)" + ";x(1=1)".repeat(rules - 1), rules);
        }
        due("x(1=1)" + ";x(1=1)".repeat(16), -4112);
        due("e1(1=1)" + ";r1(1=1)".repeat(15), 16);
        due("x(1=1);", -1007);
        due(";x(1=1)", -1000);
        due("x(1=1);;x(1=1)", -1007);
        // Each byte there is between two of them.
        for (char sign = 0; sign < 256; sign++) {
            due("x(1=1)" + sign + "x(1=1)", sign == ';' ? 2 : -1006);
        }
    }

    /** Each byte there is at the first place. */
    private static void kinds() {
        for (char sign = 0; sign < 256; sign++) {
            boolean isWorth = sign == 'e' || sign == 'r';
            due(sign + "1(1=1)", isWorth ? 1 : sign == 'x' ? -1001 : -1000);
            due(sign + "(1=1)", isWorth ? -1001 : sign == 'x' ? 1 : -1000);
        }
        due("e1", -1002);
        due("e1()", -1003);
        due("x()", -1002);
        due("e(1=1)", -1001);
        due("x(1=1)1", -1006);
    }

    /** Each byte there is between two TESTS. */
    private static void betweenTests() {
        for (char sign = 0; sign < 256; sign++) {
            boolean goesOn = isDigit(sign) || "+-*/%".indexOf(sign) >= 0;
            int want = sign == '&' || sign == '|' ? 1 : goesOn ? -1007 : sign == ')' ? -1006 : -1005;
            due("x(1=1" + sign + "1=1)", want);
        }
        due("x(|1=1)", -1002);
        due("x(&1=1)", -1002);
        due("x(1=1|)", -1006);
        due("x(1=1&)", -1006);
        due("x(1=1&|1=1)", -1006);
        due("x(1=1|&1=1)", -1006);
        due("x(1=1&1=1|1=1&1=1)", 1);
    }

    private static void tests() {
        // Each byte there is between two E.
        for (char sign = 0; sign < 256; sign++) {
            boolean goesOn = isDigit(sign) || "+-*/%".indexOf(sign) >= 0;
            due("x(1" + sign + "1)", "<>=".indexOf(sign) >= 0 ? 1 : goesOn ? -1005 : -1003);
        }
        // Each byte there is at the place of a TEST.
        for (char sign = 0; sign < 256; sign++) {
            boolean opens = sign == '!' || sign == '(' || sign == '[';
            boolean isFactor = isDigit(sign) || LETTERS.indexOf(sign) >= 0;
            due("x(" + sign, isFactor || opens ? -1003 : -1002);
        }
        due("x(!1=1)", 1);
        due("x(!!1=1)", 1);
        due("x((1=1))", 1);
        due("x(!(1=1))", 1);
        due("x((!1=1))", 1);
        due("x(!)", -1003);
        due("x(())", -1003);
        due("x((1=1)", -1007);
        due("x(1=1=1)", -1005);
        due("x(1<>1)", -1004);
        due("x((1)=1)", -1004);
        due("x(1=(1))", -1004);
        due("x((1=1)=1)", -1007);
        due("x(1!=1)", -1003);
    }

    /** Each byte there is between two FACTORS. */
    private static void betweenFactors() {
        for (char sign = 0; sign < 256; sign++) {
            boolean stands = "+-*/%".indexOf(sign) >= 0;
            due("eh" + sign + "c(1=1)", stands ? 1 : sign == '(' ? -1004 : -1002);
        }
        due("e+1(1=1)", -1001);
        due("e-1(1=1)", -1001);
        due("e1+(1=1)", -1003);
        due("e1*(1=1)", -1003);
        due("e1+-1(1=1)", -1003);
        due("e1**1(1=1)", -1003);
        due("e1+1-1*1/1%1(1=1)", 1);
    }

    /** Each byte there is at the place of a FACTOR. */
    private static void factors() {
        for (char sign = 0; sign < 256; sign++) {
            boolean stands = isDigit(sign) || LETTERS.indexOf(sign) >= 0;
            due("e" + sign + "(1=1)", stands ? 1 : sign == '[' ? -1002 : -1001);
            due("x(" + sign + "=1)", stands ? 1 : sign == '[' || sign == '!' || sign == '(' ? -1003 : -1002);
            due("x(1=" + sign + ")", stands ? 1 : sign == '[' ? -1005 : -1004);
        }
        due("e1(1=1)", 1);
        due("e12345(1=1)", 1);
        due("e00000(1=1)", 1);
        due("e[1](1=1)", 1);
        due("e[](1=1)", -1002);
        due("e[1(1=1)", -1003);
        due("e1](1=1)", -1002);
        due("e[1=1](1=1)", -1003);
        due("ehc(1=1)", -1002);
        due("e1h(1=1)", -1002);
        due("eh1(1=1)", -1002);
        due("e1[1](1=1)", -1002);
        due("e[1]1(1=1)", -1004);
    }

    /** A text that stands, cut at each place: the end can't stand there. */
    private static void cantStand() {
        String text = "e[a+12]*3(!s<5&(c=1|t>9));r2(h=0);x(f>3)";
        for (int n = 1; n <= text.length(); n++) {
            String cut = text.substring(0, n);
            boolean isWhole = n == 25 || n == 33 || n == 40;
            due(cut, isWhole ? n == 25 ? 1 : n == 33 ? 2 : 3 : -1000 - n);
        }
        CHECKS.due("so long it is", text.length(), 40);
    }

    private static void sixthDigit() {
        due("e99999(1=1)", 1);
        due("e000000(1=1)", -2006);
        due("e123456", -2006);
        due("e1234567(1=1)", -2006);
        due("e[99999](1=1)", 1);
        due("e[999999](1=1)", -2007);
        due("eh+99999(1=1)", 1);
        due("eh+999999(1=1)", -2008);
        due("x(99999=1)", 1);
        due("x(999999=1)", -2007);
        due("x(1=99999)", 1);
        due("x(1=999999)", -2009);
        due("e12345+12345(1=1)", 1);
    }

    private static void seventeenth() {
        String sixteen = "x(1=1);".repeat(16);
        for (char sign = 0; sign < 256; sign++) {
            boolean canStand = sign == 'e' || sign == 'r' || sign == 'x';
            due(sixteen + sign, canStand ? -4112 : -1112);
        }
        due(sixteen, -1112);
        due(sixteen + "e?", -4112);
        due(sixteen.substring(0, 111), 16);
    }

    /** All ways to open so many of ( and ! in one another in C, then some [: six stand, a seventh is a FAULT. */
    private static void seventh() {
        for (int outer = 0; outer <= 6; outer++) {
            for (int ways = 0; ways < 1 << outer; ways++) {
                for (int inner = 0; inner <= 7 - outer; inner++) {
                    nested(outer, ways, inner);
                }
            }
        }
        due("x((1=1)&(1=1)&(1=1)&(1=1)&(1=1)&(1=1)&(1=1))", 1);
        due("e[1]+[1]+[1]+[1]+[1]+[1]+[1](1=1)", 1);
        due("x([1]=[1]&[1]=[1]&[1]=[1]&[1]=[1])", 1);
    }

    private static void nested(int outer, int ways, int inner) {
        StringBuilder text = new StringBuilder("x(");
        StringBuilder closing = new StringBuilder(")");
        for (int i = 0; i < outer; i++) {
            boolean isRound = (ways >> i & 1) != 0;
            text.append(isRound ? '(' : '!');
            closing.insert(0, isRound ? ")" : "");
        }
        String brackets = "[".repeat(inner) + "1" + "]".repeat(inner);
        // The RULE's ( and five more; the one behind them is at 7.
        due(text + brackets + "=1" + closing, 1 + outer + inner <= 6 ? 1 : -5007);
        int behind = text.length() + 2 + 6 - (1 + outer);
        due(text + "1=" + brackets + closing, 1 + outer + inner <= 6 ? 1 : 1 + outer > 6 ? -5007 : -5000 - behind);
    }

    private static void openingOfRule() {
        due("x(((((((1=1)))))))", -5007);
        due("x((((((1=1))))))", 1);
        due("x([[[[[1]]]]]=1)", 1);
        due("x([[[[[[1]]]]]]=1)", -5007);
        due("x(1=[[[[[1]]]]])", 1);
        due("x(1=[[[[[[1]]]]]])", -5009);
        due("x(!!!!!1=1)", 1);
        due("x(!!!!!!1=1)", -5007);
        due("x(1=1);x((((((1=1))))))", 2);
        due("x(1=1);x(((((((1=1", -5014);
    }

    private static void openNot() {
        due("x(!!!!![1]=1)", -5007);
        due("x(!!!!!1=[1])", -5009);
        due("x(!!!!1=[1])", 1);
        due("x(!!!!!1=1&!!!!!1=1)", 1);
        due("x(!!!!!1=1&[1]=1)", 1);
        due("x(!!!!!1=1|[[[[[1]]]]]=1)", 1);
        due("x(!!!!!1=1|[[[[[[1]]]]]]=1)", -5016);
        due("x(!!!!(1=1)&((((1=1)))))", 1);
        due("x((!!!!1=1)&(((((1=1))))))", 1);
        due("x((!!!!1=1)&((((((1=1)))))))", -5017);
        due("x(!(!!!1=1&!!!1=1)&!!!!!1=1)", 1);
        due("x(!(!!!1=1&!!!!1=1))", -5014);
    }

    private static void worthStandsAhead() {
        due("e[[[[[[1]]]]]](1=1)", 1);
        due("e[[[[[[[1]]]]]]](1=1)", -5007);
        due("r[[[[[[1]]]]]](((((( 1=1", -1020);
        due("r[[[[[[1]]]]]](((((((1=1", -5020);
        due("e[[[[[[1]]]]]]((((((1=1))))))", 1);
        due("e[[[1]]]+[[[[[[1]]]]]](1=1)", 1);
        due("e[[[1]+[[[[1]]]]]](1=1)", 1);
        due("e[[[1]+[[[[[1]]]]]]](1=1)", -5011);
    }

    private static void firstFromTheLeft() {
        due("?123456", -1000);
        due("e123456?", -2006);
        due("e1?123456", -1002);
        due("e[[[[[[[123456", -5007);
        due("e[[[[[[123456[", -2012);
        due("e[[[[[[?[", -1007);
        due("x(1=1);".repeat(15) + "e123456;e", -2111);
        due("x(1=1);".repeat(16) + "e123456", -4112);
    }

    private static void firstBytes() {
        HeelHounds x = new HeelHounds();
        CHECKS.due("of an empty tape", x.law(1), -1);
        Checks.feed(x, "e1+1+1+1+1+1+1(1=12)");
        CHECKS.due("n 0", x.law(0), -1);
        CHECKS.due("n -1", x.law(-1), -1);
        CHECKS.due("n 21 of 20", x.law(21), -1);
        CHECKS.due("the tape stays", x.count(7), 20);
        CHECKS.due("n 20 of 20", x.law(20), 1);
        CHECKS.due("empty then", x.count(7), 0);
        Checks.feed(x, "x(1=1);x(1=1)");
        CHECKS.due("n 6: no more than the first", x.law(6), 1);
        CHECKS.due("empty of the others, too", x.count(7), 0);
        CHECKS.due("nothing is left of them", x.law(1), -1);
        Checks.feed(x, "e");
        CHECKS.due("n 1", x.law(1), -1001);
        Checks.feed(x, "x".repeat(260));
        CHECKS.due("n 241 of 260", x.law(241), -1);
        CHECKS.due("n 260 of 260", x.law(260), -1);
        CHECKS.due("the tape stays full", x.count(7), 260);
        CHECKS.due("n 240 of 260", x.law(240), -1001);
        CHECKS.due("empty by a FAULT, too", x.count(7), 0);
    }

    private static void inPlace() {
        HeelHounds x = new HeelHounds();
        x.hound(0, 5, 5);
        Checks.line(x, 0, 5, 5, 0, "r");
        CHECKS.due("three RULES", Checks.law(x, "r0(1=1);x(1=1);e1(1=1)"), 3);
        CHECKS.due("LOST by x", x.tried(1, 2), 1);
        CHECKS.due("one RULE", Checks.law(x, "r0(1=1)"), 1);
        CHECKS.due("RULES", x.count(6), 1);
        CHECKS.due("no x is left", x.tried(1, 2), 0);
        CHECKS.due("no e is left", x.tried(1, 30), 1);
    }

    private static void faultKeeps() {
        String[] texts = {"e5(1=1);r10(1=1);?", "r10(1=1);x(1=1", "x(1=1);e000000", "x(1=1);x(!!!!!!1=1)",
            "x(1=1);".repeat(16) + "e"};
        int[] due = {-1017, -1014, -2013, -5014, -4112};
        for (int i = 0; i < texts.length; i++) {
            HeelHounds x = new HeelHounds();
            x.hound(0, 5, 5);
            Checks.line(x, 0, 5, 5, 0, "r");
            Checks.law(x, "e1(1=1);r0(1=1)");
            CHECKS.due("law " + texts[i], Checks.law(x, texts[i]), due[i]);
            CHECKS.due("RULES", x.count(6), 2);
            CHECKS.due("the tape", x.count(7), 0);
            CHECKS.due("the one before holds", x.tried(1, 1), 1);
        }
    }
}
