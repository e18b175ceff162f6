/** "WRITTEN" and "ORDER": what is left out, what stands for 1 and -1, and which term comes first. */
public final class WrittenEdgeTest {
    public static void main(String[] args) {
        Check.sentence("ORDER of TERMS: by kinds", WrittenEdgeTest::byKinds);
        Check.sentence("then by k or n, the least first (0 for kind 0)", WrittenEdgeTest::byMultiples);
        Check.sentence("then by POWERS, the greatest first", WrittenEdgeTest::byPowers);
        Check.sentence("WRITTEN, TERMS come in their ORDER", WrittenEdgeTest::inOrder);
        Check.sentence("- before one with a COEFFICIENT below 0", WrittenEdgeTest::minus);
        Check.sentence("+ between if it is above", WrittenEdgeTest::plus);
        Check.sentence("its size (p, or p/q", WrittenEdgeTest::sizes);
        Check.sentence("left out if it is 1 and something is behind it", WrittenEdgeTest::one);
        Check.sentence("x^m (x if m is 1, nothing if it is 0)", WrittenEdgeTest::powers);
        Check.sentence("l^k (l for 1)", WrittenEdgeTest::logs);
        Check.sentence("e(nx), s(nx), c(nx) (n left out if 1, - for -1)", WrittenEdgeTest::multiples);
        Check.sentence("0 without TERMS", WrittenEdgeTest::nothing);
        Check.sentence("No blanks", WrittenEdgeTest::noBlanks);
        Check.finish();
    }

    private static void writes(String line, String due) {
        Check.equal(line + " written", Check.written(Check.desk(line), 0), due);
    }

    // Whatever k, n and powers are: those that would stand first are in the later kinds.
    private static void byKinds() {
        writes("c(x)+9x^-12", "9x^-12+c(x)");
        writes("l+x^-12", "x^-12+l");
        writes("x^12e(-9x)+x^-12l^9", "x^-12l^9+x^12e(-9x)");
        writes("x^12s(x)+x^-12e(9x)", "x^-12e(9x)+x^12s(x)");
        writes("x^12c(x)+x^-12s(9x)", "x^-12s(9x)+x^12c(x)");
        writes("c(x)+s(x)+e(x)+l+1", "1+l+e(x)+s(x)+c(x)");
    }

    private static void byMultiples() {
        writes("l^9+l^2+l", "l+l^2+l^9");
        writes("x^12l^2+x^-12l", "x^-12l+x^12l^2");
        writes("e(9x)+e(x)+e(-x)+e(-2x)+e(-9x)", "e(-9x)+e(-2x)+e(-x)+e(x)+e(9x)");
        writes("x^12e(x)+x^-12e(-x)", "x^-12e(-x)+x^12e(x)");
        writes("s(9x)+s(2x)+s(x)", "s(x)+s(2x)+s(9x)");
        writes("x^12c(2x)+x^-12c(x)", "x^-12c(x)+x^12c(2x)");
    }

    private static void byPowers() {
        writes("x^-12+x^-1+1+x+x^2+x^12", "x^12+x^2+x+1+x^-1+x^-12");
        writes("x^-1l+l+xl", "xl+l+x^-1l");
        writes("x^-12e(-9x)+x^12e(-9x)+e(-9x)", "x^12e(-9x)+e(-9x)+x^-12e(-9x)");
        writes("x^-2s(x)+x^-1s(x)", "x^-1s(x)+x^-2s(x)");
        writes("x^10c(9x)+x^11c(9x)", "x^11c(9x)+x^10c(9x)");
    }

    private static void inOrder() {
        writes("c(2x)+xc(x)+c(x)-s(x)+e(2x)-xe(-2x)+x^2l^2+l-1+x^2",
                "x^2-1+l+x^2l^2-xe(-2x)+e(2x)-s(x)+xc(x)+c(x)+c(2x)");
        AntiDesk desk = Check.desk("1+c(x)", "l+e(x)+x^2");
        desk.add(2, 0, 1, 1, 1);
        Check.equal("a sum of two", Check.written(desk, 2), "x^2+1+l+e(x)+c(x)");
        Check.equal("term 2 is the third", desk.term(2, 2, 2), 1L);
    }

    private static void minus() {
        writes("-1", "-1");
        writes("-x", "-x");
        writes("-2/3x", "-2/3x");
        writes("x-1", "x-1");
        writes("-x-1", "-x-1");
        writes("1-2l-3e(x)-s(-x)-c(x)", "1-2l-3e(x)+s(x)-c(x)");
        writes("-1/2-e(-x)", "-1/2-e(-x)");
    }

    private static void plus() {
        writes("x", "x");
        writes("x+1", "x+1");
        writes("-x+1", "-x+1");
        writes("1-x", "-x+1");
        writes("2+3l+4/5e(x)", "2+3l+4/5e(x)");
    }

    private static void sizes() {
        writes("2", "2");
        writes("10", "10");
        writes("100x", "100x");
        writes("999/998x", "999/998x");
        writes("5/1", "5");
        writes("-7/2", "-7/2");
        writes("1/2", "1/2");
        AntiDesk desk = new AntiDesk();
        Check.grow(desk, 0, 1, "e(-9x)", 10_000_000_000L);
        Check.equal("the greatest", Check.written(desk, 0), "10000000000e(-9x)");
        desk.add(0, 0, 1, -1, 1);
        Check.equal("ten digits", Check.written(desk, 0), "9999999999e(-9x)");
        desk.add(0, 3, 0, -1, 1);
        Check.equal("ten digits, below 0", Check.written(desk, 0), "-9999999999e(-9x)");
        writes("1/369+1/271", "640/99999");
    }

    private static void one() {
        writes("1", "1");
        writes("-1", "-1");
        writes("1x", "x");
        writes("-1x", "-x");
        writes("1l", "l");
        writes("1e(x)", "e(x)");
        writes("-1s(x)", "-s(x)");
        writes("1c(x)", "c(x)");
        writes("1x^-1l", "x^-1l");
        writes("x+1", "x+1");
        writes("x-1", "x-1");
        writes("1/2x", "1/2x");
        writes("-1/2x", "-1/2x");
        writes("11x", "11x");
        writes("2/2x^2", "x^2");
        writes("x^0", "1");
    }

    private static void powers() {
        writes("5x^0", "5");
        writes("5x^1", "5x");
        writes("5x^2", "5x^2");
        writes("5x^-1", "5x^-1");
        writes("5x^10", "5x^10");
        writes("5x^12", "5x^12");
        writes("5x^-12", "5x^-12");
        writes("5x^0l", "5l");
        writes("5x^1l", "5xl");
    }

    private static void logs() {
        writes("l^0", "1");
        writes("l^1", "l");
        writes("l^2", "l^2");
        writes("3l^9", "3l^9");
        writes("3xl", "3xl");
    }

    private static void multiples() {
        for (String f : new String[] {"e", "s", "c"}) {
            writes(f + "(1x)", f + "(x)");
            writes(f + "(2x)", f + "(2x)");
            writes(f + "(9x)", f + "(9x)");
        }
        writes("e(-1x)", "e(-x)");
        writes("e(-2x)", "e(-2x)");
        writes("e(-9x)", "e(-9x)");
        writes("2x^2e(-1x)", "2x^2e(-x)");
    }

    private static void nothing() {
        Check.equal("a new slot", Check.written(new AntiDesk(), 0), "0");
        writes("0", "0");
        writes("x-x", "0");
        AntiDesk desk = Check.desk("x");
        Check.equal("one character", desk.write(1), 1);
        Check.equal("which is 0", desk.output(0), '0');
        Check.equal("and no other", desk.output(1), ' ');
    }

    private static void noBlanks() {
        writes(" - 1 / 2 x ^ 2 + 3 e ( - 2 x ) - s ( x ) ", "-1/2x^2+3e(-2x)-s(x)");
    }
}
