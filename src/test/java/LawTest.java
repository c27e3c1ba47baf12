/** Promise 6 (law): what stands, its FAULTS, and what it comes to. */
public final class LawTest {
    private static final Checks CHECKS = new Checks("LawTest");

    public static void main(String[] args) {
        laws();
        faults();
        depths();
        refusals();
        conditions();
        numbers();
        dividedByNone();
        firstRuleHolds();
        letters();
        CHECKS.end();
    }

    private static int law(String text) {
        return Checks.law(new HeelHounds(), text);
    }

    private static void laws() {
        CHECKS.due("all letters", law("eh+c+a+s+g+f+n+t(1=1)"), 1);
        CHECKS.due("all signs", law("r1+2-3*4/5%6(1<2&3>4|5=6)"), 1);
        CHECKS.due("five digits", law("e99999(00000=0)"), 1);
        CHECKS.due("brackets", law("e[[1]](!(!1=1|(2=2)))"), 1);
        CHECKS.due("sixteen", law("x(1=1);".repeat(15) + "x(1=1)"), 16);
        CHECKS.due("239 bytes", law("e1" + "+1".repeat(116) + "(1=1)"), 1);
        CHECKS.due("240 bytes", law("e10" + "+1".repeat(116) + "(1=1)"), 1);
    }

    private static void faults() {
        CHECKS.due("a blank", law("e 1(1=1)"), -1001);
        CHECKS.due("a letter that is none", law("eb(1=1)"), -1001);
        CHECKS.due("a number of six digits", law("e123456(1=1)"), -2006);
        CHECKS.due("six digits in C", law("x(000000=1)"), -2007);
        CHECKS.due("no C", law("x()"), -1002);
        CHECKS.due("no comparison", law("x(1)"), -1003);
        CHECKS.due("two comparisons", law("x(1=1=1)"), -1005);
        CHECKS.due("no right side", law("x(1=)"), -1004);
        CHECKS.due("a sign at the start of E", law("e-1(1=1)"), -1001);
        CHECKS.due("two signs", law("e1+*2(1=1)"), -1003);
        CHECKS.due("a [ that stays open", law("e[1(1=1)"), -1003);
        CHECKS.due("a ] too many", law("e1](1=1)"), -1002);
        CHECKS.due("an empty [", law("e[](1=1)"), -1002);
        CHECKS.due("a ( in E", law("x(1+(2)=3)"), -1004);
        CHECKS.due("C in brackets compared", law("x((1=1)=1)"), -1007);
        CHECKS.due("! ahead of an E of a rule", law("e!1(1=1)"), -1001);
        CHECKS.due("! and no test", law("x(!)"), -1003);
        CHECKS.due("an & at the end", law("x(1=1&)"), -1006);
        CHECKS.due("a | at the end", law("x(1=1|"), -1006);
        CHECKS.due("a ) too many", law("x(1=1))"), -1006);
        CHECKS.due("a ; at the end", law("x(1=1);"), -1007);
        CHECKS.due("another rule without a ;", law("x(1=1)x(1=1)"), -1006);
        CHECKS.due("E in an x", law("xh(1=1)"), -1001);
        CHECKS.due("a number's end, then a letter", law("e1h(1=1)"), -1002);
        String sixteen = "x(1=1);".repeat(16);
        CHECKS.due("a 17th rule", law(sixteen + "e"), -4112);
        CHECKS.due("a 17th x", law(sixteen + "x(1=1)"), -4112);
        CHECKS.due("a 17th that can't stand", law(sixteen + "q"), -1112);
        CHECKS.due("sixteen and a ;", law(sixteen), -1112);
    }

    private static void depths() {
        CHECKS.due("six [ in E", law("e[[[[[[1]]]]]](1=1)"), 1);
        CHECKS.due("seven [ in E", law("e[[[[[[[1]]]]]]](1=1)"), -5007);
        CHECKS.due("five ( in C", law("x((((((1=1))))))"), 1);
        CHECKS.due("six ( in C", law("x(((((((1=1)))))))"), -5007);
        CHECKS.due("five [ in C", law("x([[[[[1]]]]]=1)"), 1);
        CHECKS.due("six [ in C", law("x([[[[[[1]]]]]]=1)"), -5007);
        CHECKS.due("five !", law("x(!!!!!1=1)"), 1);
        CHECKS.due("six !", law("x(!!!!!!1=1)"), -5007);
        CHECKS.due("a ! is open in its test", law("x(!!!!![1]=1)"), -5007);
        CHECKS.due("a ! is open on its right side", law("x(!!!!!1=[1])"), -5009);
        CHECKS.due("a ! ends with its test", law("x(!!!!!1=1&[[[[[1]]]]]=1)"), 1);
        CHECKS.due("all kinds", law("x(!(!([[1]]=1)))"), -5007);
        CHECKS.due("all kinds, six", law("x(!(!([1]=1)))"), 1);
        CHECKS.due("side by side", law("x((1=1)&(1=1)&(1=1)&(1=1)&(1=1)&(1=1)&(1=1))"), 1);
        CHECKS.due("E of a rule is ahead of its (", law("e[[[[[[1]]]]]](((((((1=1"), -5020);
    }

    private static void refusals() {
        HeelHounds x = new HeelHounds();
        CHECKS.due("a law", Checks.law(x, "x(1=1)"), 1);
        Checks.feed(x, "e1(1=1)");
        CHECKS.due("n 0", x.law(0), -1);
        CHECKS.due("n -5", x.law(-5), -1);
        CHECKS.due("n 21 of 20", x.law(21), -1);
        CHECKS.due("the tape stays", x.count(7), 20);
        CHECKS.due("a fault", x.law(6), -1006);
        CHECKS.due("the tape is empty", x.count(7), 0);
        CHECKS.due("the one before stays", x.count(6), 1);
        x.hound(0, 0, 0);
        CHECKS.due("and holds", x.tried(1, 2), 1);
        Checks.feed(x, "e".repeat(241));
        CHECKS.due("n 241", x.law(241), -1);
        CHECKS.due("n 240", x.law(240), -1001);
        CHECKS.due("in place of the one before", Checks.law(x, "e1(1=1);e2(1=1)"), 2);
        CHECKS.due("how many", x.count(6), 2);
        CHECKS.due("it holds no more", x.tried(1, 2), 0);
    }

    /** Whether HOUND 1 at (0,0) gives up by the C. */
    private static boolean holds(String condition) {
        HeelHounds x = new HeelHounds();
        x.hound(1, 0, 0);
        Checks.law(x, "x(" + condition + ")");
        return x.tried(1, 2) == 2;
    }

    private static void conditions() {
        String[] hold = {"1=1", "1<2", "2>1", "!1=2", "!!1=1", "1=2|1=1", "1=1|1=2", "1=1&2=2", "(1=1)",
            "1=2&1=2|1=1", "1=1|1=2&1=2", "!(1=1&1=2)", "!1=2&1=1", "!1=1|1=1", "(1=2|1=1)&1=1",
            "!(1=2|1=3)&!(1=1&1=2)", "1=2|1=3|1=1", "1=1&1=1&1=1"};
        String[] not = {"1=2", "2<1", "1<1", "1>1", "!1=1", "1=1&1=2", "1=2&1=1", "1=2|2=1", "(1=1|1=1)&1=2",
            "!(1=1|1=2)", "!1=2&1=2", "1=1&(1=2|1=3)", "!!1=2", "1=1&1=1&1=2"};
        for (String condition : hold) {
            CHECKS.due(condition, holds(condition), true);
        }
        for (String condition : not) {
            CHECKS.due(condition, holds(condition), false);
        }
    }

    private static void numbers() {
        String[] hold = {"1+2*3=7", "[1+2]*3=9", "10-3-2=5", "10-[3-2]=9", "100/10/5=2", "100/[10/5]=50",
            "7%4*2=6", "7*4%3=1", "2*7/4=3", "[0-7]/2=0-3", "[0-7]%2=0-1", "0-1<0", "7%[0-2]=1",
            // 32 bits as the machine does it.
            "65536*65536=0", "65536*32768<0", "65536*32767+65535=0-1-[65536*32768]",
            "[65536*32768]/[0-1]=65536*32768", "[65536*32768]%[0-1]=0", "65536*32768-1>0",
            "99999*99999=14098*10000*10+65409", "00012=12"};
        for (String condition : hold) {
            CHECKS.due(condition, holds(condition), true);
        }
    }

    private static void dividedByNone() {
        CHECKS.due("refused", holds("1/0=0"), false);
        CHECKS.due("refused, not held by !", holds("!1/0=0"), false);
        CHECKS.due("refused by %", holds("!1%0=0"), false);
        CHECKS.due("the whole of C", holds("1/0=0|1=1"), false);
        CHECKS.due("not asked behind what holds", holds("1=1|1/0=0"), true);
        CHECKS.due("not asked behind what does not", holds("1=2&1/0=0|1=1"), true);
        CHECKS.due("asked", holds("1=1&1/0=0|1=1"), false);
        CHECKS.due("asked in brackets", holds("!(1=1&[1-1]/[1-1]=0)|1=1"), false);
        CHECKS.due("not asked in brackets", holds("!(1=2&1/0=0)&1=1"), true);
        CHECKS.due("on the right side", holds("!1=1/[2-2]"), false);
        CHECKS.due("0 times it is refused too", holds("!0*[1/0]=1"), false);
        CHECKS.due("another x is asked all the same", holds("1/0=0);x(1=1"), true);
        // A refused E is 0, and the RULE is still the first that holds.
        HeelHounds x = onScent();
        Checks.law(x, "e1/0(1=1);e5(1=1)");
        CHECKS.due("a refused E is 0", x.tried(1, 30), 1);
        Checks.law(x, "e4(1/0=0);e5(1=1)");
        CHECKS.due("a refused C does not hold", x.tried(1, 30), 0);
        Checks.law(x, "e5(1=1);r9+1/0(1=1)");
        CHECKS.due("a refused r is 0", x.tried(1, 30), 0);
    }

    /** HOUND 0 where CREATURE 0 was at 5 and 6; THE TIME is 10. */
    private static HeelHounds onScent() {
        HeelHounds x = new HeelHounds();
        Checks.line(x, 0, 3, 3, 4, "r.");
        x.time(10);
        x.hound(0, 4, 3);
        return x;
    }

    private static void firstRuleHolds() {
        HeelHounds x = onScent();
        Checks.law(x, "e0(1=1);e5(1=1)");
        CHECKS.due("the first rule is 0", x.tried(1, 30), 1);
        Checks.law(x, "e0(1=2);e5(1=1)");
        CHECKS.due("the first that holds", x.tried(1, 30), 0);
        Checks.law(x, "e0-5(1=1)");
        CHECKS.due("below its bound", x.tried(1, 30), 1);
        Checks.law(x, "e5(1=2)");
        CHECKS.due("none holds", x.tried(1, 30), 1);
        Checks.law(x, "e0(1=2);e5(1=1)");
        Checks.law(x, "e0(1=2)");
        CHECKS.due("no rule of the law before", x.tried(1, 30), 1);
        Checks.law(x, "r10(1=1);r0(1=1);e5(1=1)");
        CHECKS.due("the first r", x.tried(1, 30), 1);
        Checks.law(x, "r0-3(1=1);e5(1=1)");
        CHECKS.due("r below its bound: 6, 5, 4 and HOME", x.tried(3, 1), 1);
        Checks.law(x, "r99(1=1);e5(1=1)");
        CHECKS.due("r above its bound", x.tried(9, 30), 9);
        // Above 9999 all are liked alike, and the latest is taken.
        Checks.law(x, "e10000+a(1=1)");
        CHECKS.due("e above its bound", x.tried(1, 20), 6);
        Checks.law(x, "e9990+a(1=1)");
        CHECKS.due("e below its bound", x.tried(1, 20), 4);
    }

    /** Asks what a letter is in e: HOUND 2 goes to the SCENT only if it is so. */
    private static void letterIs(HeelHounds x, String condition, boolean want) {
        Checks.law(x, "e1(" + condition + ")");
        CHECKS.due("in e " + condition, x.tried(1, 32) == x.houndIs(2, 2), want);
    }

    private static void giveUpIs(HeelHounds x, String condition, boolean want) {
        Checks.law(x, "x(" + condition + ");e0(1=1)");
        CHECKS.due("in x " + condition, (x.tried(1, 2) & 4) != 0, want);
    }

    private static void letters() {
        HeelHounds x = new HeelHounds();
        Checks.line(x, 3, 7, 7, 100, ".");
        x.fading(2);
        x.time(100);
        x.hound(2, 7, 8);
        x.moments(5);
        // THE TIME is 105; only the SCENTS of 100 and 101 at (7,7) are beside him.
        x.hound(4, 7, 7);
        x.hound(5, 7, 7);
        letterIs(x, "h=2&c=3&t=5&f=5&n=2", true);
        letterIs(x, "a=5&s=89&g=9900", true);
        letterIs(x, "a=4&s=91&g=9899", true);
        letterIs(x, "h=3", false);
        letterIs(x, "c=0", false);
        letterIs(x, "n=1", false);
        letterIs(x, "a=3", false);
        giveUpIs(x, "h=2&c=0&a=0&s=0&g=0&t=5&f=5&n=1", true);
        giveUpIs(x, "n=0", false);
        giveUpIs(x, "n=3", false);
        x.hound(0, 7, 8);
        giveUpIs(x, "h=2&n=2", true);
        // Once he is at a time, g is how much older a SCENT is than that.
        Checks.law(x, "e1(a=4)");
        x.moments(1);
        CHECKS.due("at 101", x.houndIs(2, 1), 101);
        letterIs(x, "g=1", true);
        letterIs(x, "g=2", false);
        letterIs(x, "n=4&h=2|h<2", true);
    }
}
