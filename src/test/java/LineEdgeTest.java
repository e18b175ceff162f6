/** "THE LINE": what can be read, what cannot, and what it says. */
public final class LineEdgeTest {
    public static void main(String[] args) {
        Check.sentence("THE LINE is what was typed, at most 100 characters", LineEdgeTest::hundred);
        Check.sentence("blanks count for nothing", LineEdgeTest::blanks);
        Check.sentence("but that one ends a number", LineEdgeTest::blanksEndNumbers);
        Check.sentence("as one or more TERMS", LineEdgeTest::oneOrMore);
        Check.sentence("with + or - between", LineEdgeTest::between);
        Check.sentence("and perhaps - before the first", LineEdgeTest::beforeTheFirst);
        Check.sentence("a COEFFICIENT (a number, and perhaps / and a number)", LineEdgeTest::coefficients);
        Check.sentence("x (and perhaps ^ and a POWER: perhaps -, a number)", LineEdgeTest::powers);
        Check.sentence("l (and perhaps ^ and a number)", LineEdgeTest::logs);
        Check.sentence("or e, s or c, (, perhaps -, perhaps a number, x, )", LineEdgeTest::multiples);
        Check.sentence("each of the three may be left out, but not all", LineEdgeTest::leftOut);
        Check.sentence("Numbers have one to three digits", LineEdgeTest::digits);
        Check.sentence("exp(0 x) is 1", LineEdgeTest::expOfNothing);
        Check.sentence("sin(0 x) is 0, and so on", LineEdgeTest::wavesOfNothing);
        Check.sentence("log(x) to the 0 is 1", LineEdgeTest::logToTheNothing);
        Check.sentence("sin(-n x) is - sin(n x)", LineEdgeTest::sinBelow);
        Check.sentence("cos(-n x) is cos(n x)", LineEdgeTest::cosBelow);
        Check.sentence("TERMS with the same POWER and FUNCTION are added up", LineEdgeTest::addedUp);
        Check.sentence("in the order in which they stand (FULL, if one is beyond BOUNDS on the way)",
                LineEdgeTest::onTheWay);
        Check.sentence("with 0 there is none", LineEdgeTest::none);
        Check.finish();
    }

    private static void signAt(String line, int place) {
        Check.refuses(line, AntiDesk.SIGN, place);
    }

    private static void hundred() {
        String nine = "x^2-11/12";
        String line = nine + ("+" + nine).repeat(9);
        Check.reads(line, "10x^2-55/6");
        Check.reads(line + "l", "10x^2-33/4-11/12l");
        Check.reads(line + " ", "10x^2-55/6");
        signAt(line + "+", 100);
        signAt(line + "y", 99);
        Check.reads(" ".repeat(99) + "x", "x");
        Check.reads("x" + " ".repeat(99), "x");
        signAt(" ".repeat(100), 100);
        AntiDesk desk = new AntiDesk();
        Check.type(desk, line + "l");
        Check.throwsState("one more", () -> desk.type('^', 0, 0, 0, 0));
        Check.equal("still a line of 100", desk.read(0), 3);
    }

    private static void blanks() {
        Check.reads("- 3 / 4 x ^ - 2 l ^ 2 + 5 x e ( - 3 x ) - s ( x )", "-3/4x^-2l^2+5xe(-3x)-s(x)");
        Check.reads("   -   3/4x^-2l^2   +5xe(-3x)-s(x)   ", "-3/4x^-2l^2+5xe(-3x)-s(x)");
        Check.reads("x ^2", "x^2");
        Check.reads("x^ 2", "x^2");
        Check.reads("x^ -2", "x^-2");
        Check.reads("x^- 2", "x^-2");
        Check.reads("1 /2", "1/2");
        Check.reads("1/ 2", "1/2");
        Check.reads("2 x", "2x");
        Check.reads("2 l", "2l");
        Check.reads("x c(2x)", "xc(2x)");
        Check.reads("c (2x)", "c(2x)");
        Check.reads("c( 2x)", "c(2x)");
        Check.reads("c(2 x)", "c(2x)");
        Check.reads("c(2x )", "c(2x)");
        Check.reads("l ^3", "l^3");
        Check.reads("l^ 3", "l^3");
        Check.reads("1 +x", "x+1");
        Check.reads("1+ x", "x+1");
        Check.reads("x ", "x");
        Check.reads(" x", "x");
    }

    private static void blanksEndNumbers() {
        signAt("1 2", 2);
        signAt("1  2", 3);
        signAt("1/2 3", 4);
        signAt("x^1 2", 4);
        signAt("x^-1 2", 5);
        signAt("l^1 2", 4);
        signAt("e(1 2x)", 4);
        signAt("123 4", 4);
        Check.reads("12 x", "12x");
    }

    private static void oneOrMore() {
        signAt("", 0);
        signAt("   ", 3);
        Check.reads("x", "x");
        Check.reads("x+1", "x+1");
        Check.reads("1" + "+1".repeat(49), "50");
    }

    private static void between() {
        Check.reads("x+1", "x+1");
        Check.reads("x-1", "x-1");
        Check.reads("1-2-3+4", "0");
        signAt("x+", 2);
        signAt("x-", 2);
        signAt("x+ ", 3);
        signAt("x++1", 2);
        signAt("x+-1", 2);
        signAt("x-+1", 2);
        signAt("x--1", 2);
        signAt("x 1", 2);
        signAt("x*1", 1);
        signAt("l l", 2);
        signAt("e(x)e(x)", 4);
    }

    private static void beforeTheFirst() {
        Check.reads("-x", "-x");
        Check.reads(" - x", "-x");
        Check.reads("-1+x", "x-1");
        Check.reads("-2/3e(x)", "-2/3e(x)");
        signAt("+x", 0);
        signAt(" +x", 1);
        signAt("--x", 1);
        signAt("-+x", 1);
        signAt("-", 1);
        signAt(" - ", 3);
    }

    private static void coefficients() {
        Check.reads("7", "7");
        Check.reads("7/8", "7/8");
        Check.reads("7/8x", "7/8x");
        signAt("7/", 2);
        signAt("7/x", 2);
        signAt("/7", 0);
        signAt("7//8", 2);
        signAt("7/8/9", 3);
        signAt("7/-8", 2);
        signAt("7/+8", 2);
        signAt("7.5", 1);
        signAt("7^2", 1);
    }

    private static void powers() {
        Check.reads("x", "x");
        Check.reads("x^2", "x^2");
        Check.reads("x^-2", "x^-2");
        Check.reads("x^1", "x");
        Check.reads("x^-1", "x^-1");
        Check.reads("x^0", "1");
        Check.reads("x^-0", "1");
        signAt("x^", 2);
        signAt("x^-", 3);
        signAt("x^x", 2);
        signAt("x^+2", 2);
        signAt("x^--2", 3);
        signAt("x^-x", 3);
        signAt("x2", 1);
        signAt("x-^2", 2);
        signAt("x^2^2", 3);
        signAt("x^1/2", 3);
        signAt("xx", 1);
        signAt("X", 0);
    }

    private static void logs() {
        Check.reads("l", "l");
        Check.reads("l^2", "l^2");
        Check.reads("l^1", "l");
        signAt("l^", 2);
        signAt("l^-2", 2);
        signAt("l^-0", 2);
        signAt("l^x", 2);
        signAt("l2", 1);
        signAt("l(x)", 1);
        signAt("l^2^2", 3);
        signAt("L", 0);
    }

    private static void multiples() {
        for (String f : new String[] {"e", "s", "c"}) {
            Check.reads(f + "(x)", f + "(x)");
            Check.reads(f + "(1x)", f + "(x)");
            Check.reads(f + "(2x)", f + "(2x)");
            signAt(f, 1);
            signAt(f + "(", 2);
            signAt(f + "(-", 3);
            signAt(f + "(2", 3);
            signAt(f + "(x", 3);
            signAt(f + "x", 1);
            signAt(f + "2x", 1);
            signAt(f + ")", 1);
            signAt(f + "^2(x)", 1);
            signAt(f + "()", 2);
            signAt(f + "(-)", 3);
            signAt(f + "(2)", 3);
            signAt(f + "(y)", 2);
            signAt(f + "(+x)", 2);
            signAt(f + "(--x)", 3);
            signAt(f + "(2-x)", 3);
            signAt(f + "(x2)", 3);
            signAt(f + "(1/2x)", 3);
            signAt(f + "(x^2)", 3);
            signAt(f + "(xx)", 3);
            signAt(f + "(x))", 4);
        }
        Check.reads("e(-x)", "e(-x)");
        Check.reads("e(-1x)", "e(-x)");
        Check.reads("e(-2x)", "e(-2x)");
        signAt("(x)", 0);
        signAt("E(x)", 0);
    }

    private static void leftOut() {
        Check.reads("3x^2l^2", "3x^2l^2");
        Check.reads("3x^2", "3x^2");
        Check.reads("3l^2", "3l^2");
        Check.reads("x^2l^2", "x^2l^2");
        Check.reads("3", "3");
        Check.reads("x^2", "x^2");
        Check.reads("l^2", "l^2");
        Check.reads("3/4x^2s(2x)-x^2s(2x)+3/4s(2x)-s(2x)", "-1/4x^2s(2x)-1/4s(2x)");
        signAt("", 0);
        signAt("-", 1);
        signAt("1+", 2);
        signAt("1+ +1", 3);
        signAt("x3", 1);
        signAt("lx", 1);
        signAt("l3", 1);
        signAt("e(x)x", 4);
        signAt("e(x)3", 4);
        signAt("e(x)l", 4);
        signAt("ll", 1);
    }

    private static void digits() {
        Check.reads("9", "9");
        Check.reads("99", "99");
        Check.reads("999", "999");
        Check.reads("001", "1");
        Check.reads("000", "0");
        Check.reads("1/999", "1/999");
        Check.reads("1/001", "1");
        Check.reads("x^012", "x^12");
        Check.reads("x^-012", "x^-12");
        Check.reads("x^000", "1");
        Check.reads("l^009", "l^9");
        Check.reads("e(-009x)", "e(-9x)");
        Check.reads("s(009x)", "s(9x)");
        Check.reads("c(001x)", "c(x)");
        signAt("1000", 3);
        signAt("0001", 3);
        signAt("9999x", 3);
        signAt("1/1000", 5);
        signAt("1/0101", 5);
        signAt("x^0001", 5);
        signAt("x^-0001", 6);
        signAt("l^0001", 5);
        signAt("e(0001x)", 5);
        signAt("c(-0001x)", 6);
    }

    private static void expOfNothing() {
        Check.reads("e(0x)", "1");
        Check.reads("e(-0x)", "1");
        Check.reads("-3/4x^2e(000x)", "-3/4x^2");
        Check.reads("1+e(0x)", "2");
        Check.reads("xe(0x)+xe(x)", "x+xe(x)");
    }

    private static void wavesOfNothing() {
        Check.reads("s(0x)", "0");
        Check.reads("s(-0x)", "0");
        Check.reads("-3/4x^2s(000x)", "0");
        Check.reads("x+s(0x)", "x");
        Check.reads("c(0x)", "1");
        Check.reads("c(-0x)", "1");
        Check.reads("-3/4x^2c(000x)", "-3/4x^2");
        Check.reads("1+c(0x)+s(0x)", "2");
    }

    private static void logToTheNothing() {
        Check.reads("l^0", "1");
        Check.reads("-3/4x^2l^000", "-3/4x^2");
        Check.reads("1+l^0+l", "2+l");
    }

    private static void sinBelow() {
        Check.reads("s(-x)", "-s(x)");
        Check.reads("-s(-9x)", "s(9x)");
        Check.reads("2/3xs(-2x)", "-2/3xs(2x)");
        Check.reads("s(2x)+s(-2x)", "0");
        Check.reads("s(2x)-s(-2x)", "2s(2x)");
    }

    private static void cosBelow() {
        Check.reads("c(-x)", "c(x)");
        Check.reads("-c(-9x)", "-c(9x)");
        Check.reads("2/3xc(-2x)", "2/3xc(2x)");
        Check.reads("c(2x)+c(-2x)", "2c(2x)");
        Check.reads("c(2x)-c(-2x)", "0");
        Check.reads("e(2x)-e(-2x)", "-e(-2x)+e(2x)");
    }

    private static void addedUp() {
        Check.reads("x+x", "2x");
        Check.reads("1/2l+x+1/3l", "x+5/6l");
        Check.reads("1/6+1/6", "1/3");
        Check.reads("e(x)-3e(x)+e(-x)", "e(-x)-2e(x)");
        Check.reads("1+x^0+l^0+e(0x)+c(0x)", "5");
        Check.reads("999" + "+999".repeat(24), "24975");
        Check.reads("x+x^2+xl+xl^2", "x^2+x+xl+xl^2");
    }

    private static void onTheWay() {
        int none = AntiDesk.NONE;
        Check.refuses("1/177+1/565-1/565", AntiDesk.FULL, none);
        Check.refuses("x+1/177+l+1/565+x-1/565", AntiDesk.FULL, none);
        Check.refuses("1/177x+1/565x-1/565x", AntiDesk.FULL, none);
        Check.refuses("1/177s(x)-1/565s(-x)-1/565s(x)", AntiDesk.FULL, none);
        Check.refuses("1/177-1/565x^0-1/177", AntiDesk.FULL, none);
        Check.reads("1/177-1/177+1/565", "1/565");
        Check.reads("1/565-1/565+1/177", "1/177");
        Check.reads("1/177+1/565x", "1/565x+1/177");
        Check.reads("1/177l+1/565l^2", "1/177l+1/565l^2");
        Check.reads("1/177s(x)+1/565c(x)", "1/177s(x)+1/565c(x)");
        Check.reads("1/177+1/565s(0x)", "1/177");
        Check.reads("1/177+0/565", "1/177");
    }

    private static void none() {
        Check.reads("0", "0");
        Check.reads("-0", "0");
        Check.reads("0x+0l+0e(x)", "0");
        Check.reads("x-x", "0");
        Check.reads("x-x+1", "1");
        Check.reads("x-x+x", "x");
        Check.reads("1/2l+1/3l-5/6l", "0");
        Check.reads("0/7x^3+x", "x");
    }
}
