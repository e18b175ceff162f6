/** Promises 8 to 14: what is done with sums, and how they are looked at. */
public final class SumsEdgeTest {
    private static final String NINE = "x^4+x^3+x^2+x+1+x^-1+x^-2+x^-3+x^-4";

    public static void main(String[] args) {
        Check.sentence("Slot to gets a + b times p / q: how many TERMS", SumsEdgeTest::added);
        Check.sentence("also if p is not -100 .. 100", SumsEdgeTest::factors);
        Check.sentence("q not 1 .. 6", SumsEdgeTest::divisors);
        Check.sentence("p / q is not 1 or -1, and b is not SMALL", SumsEdgeTest::addedNotSmall);

        Check.sentence("Slot to gets a times b: how many TERMS", SumsEdgeTest::multiplied);
        Check.sentence("FULL, first of all, if the numbers of their TERMS, multiplied, are above 100",
                SumsEdgeTest::hundredProducts);
        Check.sentence("KIND, if a logarithm would be multiplied with an exp, sin or cos, or an exp with a sin or cos",
                SumsEdgeTest::kinds);
        Check.sentence("KIND ... ; FULL", SumsEdgeTest::kindBeforeFull);
        Check.sentence("exp(a x) exp(b x) is exp((a + b) x)", SumsEdgeTest::expsMultiplied);
        Check.sentence("sin a sin b is half of cos(a - b) less cos(a + b), and so on", SumsEdgeTest::wavesMultiplied);
        Check.sentence("IllegalState: one is not SMALL", SumsEdgeTest::multipliedNotSmall);

        Check.sentence("Slot to gets the derivative of a: how many TERMS; or FULL", SumsEdgeTest::derived);

        Check.sentence("Slot to gets F, slot rest G: G and the derivative of F together are a", SumsEdgeTest::together);
        Check.sentence("F has no TERM without x (POWER 0, kind 0)", SumsEdgeTest::noConstant);
        Check.sentence("G only TERMS 1 / x times exp, sin or cos", SumsEdgeTest::rests);
        Check.sentence("how many G has (0: F is an antiderivative of a; else there is none",
                SumsEdgeTest::howManyRests);
        Check.sentence("(to is told before rest, if they are one)", SumsEdgeTest::oneSlot);
        Check.sentence("Slot to gets F, slot rest G", SumsEdgeTest::nothingIntegrated);
        Check.sentence("IllegalState: a is not SMALL", SumsEdgeTest::integratedNotSmall);

        Check.sentence("Whether two SLOTS have the same SUM", SumsEdgeTest::same);
        Check.sentence("How many TERMS a SLOT has", SumsEdgeTest::terms);
        Check.sentence("Of TERM i in the ORDER, from 0 on", SumsEdgeTest::termsInOrder);
        Check.sentence("what = 0 its numerator, 1 denominator, 2 kind, 3 k or n, 4 POWER", SumsEdgeTest::parts);
        Check.sentence("0 if there is none", SumsEdgeTest::noTerm);
        Check.sentence("IllegalArgument: there is no such SLOT, or what", SumsEdgeTest::noPart);
        Check.finish();
    }

    private static void added() {
        AntiDesk desk = Check.desk("x+1/2", "1/3x-l", "0");
        Check.equal("3/2 of it", desk.add(3, 0, 1, 3, 2), 3);
        Check.equal("written", Check.written(desk, 3), "3/2x+1/2-3/2l");
        Check.equal("the other way", desk.add(3, 1, 0, 3, 2), 3);
        Check.equal("written", Check.written(desk, 3), "11/6x+3/4-l");
        Check.equal("nothing of it", desk.add(3, 0, 1, 0, 5), 2);
        Check.equal("the first alone", desk.same(3, 0), true);
        Check.equal("to nothing", desk.add(3, 2, 0, 1, 1), 2);
        Check.equal("the second alone", desk.same(3, 0), true);
        Check.equal("nothing and nothing", desk.add(3, 2, 2, -5, 6), 0);
        Check.equal("less itself", desk.add(3, 0, 0, -1, 1), 0);
        Check.equal("gone", desk.terms(3), 0);
        Check.equal("into the first", desk.add(0, 0, 1, 1, 1), 3);
        Check.equal("written", Check.written(desk, 0), "4/3x+1/2-l");
        Check.equal("into the second", desk.add(1, 0, 1, -1, 1), 2);
        Check.equal("written", Check.written(desk, 1), "x+1/2");
        Check.equal("all one slot", desk.add(1, 1, 1, 1, 2), 2);
        Check.equal("written", Check.written(desk, 1), "3/2x+3/4");
    }

    private static void factors() {
        AntiDesk desk = Check.desk("x", "0");
        Check.equal("100", desk.add(2, 1, 0, 100, 1), 1);
        Check.equal("100 x", desk.term(2, 0, 0), 100L);
        Check.equal("-100", desk.add(2, 1, 0, -100, 1), 1);
        Check.equal("-100 x", desk.term(2, 0, 0), -100L);
        Check.equal("0", desk.add(2, 1, 0, 0, 1), 0);
        for (int p : new int[] {101, -101, 1000, Integer.MAX_VALUE, Integer.MIN_VALUE}) {
            Check.throwsArgument("p " + p, () -> desk.add(2, 1, 0, p, 1));
            Check.throwsArgument("p " + p + " with nothing", () -> desk.add(2, 1, 1, p, 6));
        }
    }

    private static void divisors() {
        AntiDesk desk = Check.desk("x", "0");
        for (int q = 1; q <= 6; q++) {
            Check.equal("q " + q, desk.add(2, 1, 0, 1, q), 1);
            Check.isTerm(desk, 2, 0, 1, q, 0, 0, 1);
        }
        for (int q : new int[] {0, 7, -1, -6, Integer.MAX_VALUE, Integer.MIN_VALUE}) {
            Check.throwsArgument("q " + q, () -> desk.add(2, 1, 0, 1, q));
            Check.throwsArgument("q " + q + " with nothing", () -> desk.add(2, 1, 1, 0, q));
        }
    }

    private static void addedNotSmall() {
        AntiDesk desk = Check.desk("x", "101x^5", "0");
        for (int q = 1; q <= 6; q++) {
            int divisor = q;
            Check.equal("1 as " + q + "/" + q, desk.add(3, 2, 1, q, q), 1);
            Check.isTerm(desk, 3, 0, 101, 1, 0, 0, 5);
            Check.equal("-1 as " + -q + "/" + q, desk.add(3, 2, 1, -q, q), 1);
            Check.isTerm(desk, 3, 0, -101, 1, 0, 0, 5);
            for (int p : new int[] {0, q + 1, q - 1, -q - 1, 1 - q, 2 * q, -2 * q, 100, -100}) {
                Check.throwsState("not small by " + p + "/" + q, () -> desk.add(3, 2, 1, p, divisor));
            }
        }
        Check.isTerm(desk, 3, 0, -101, 1, 0, 0, 5);
        Check.equal("the first may be any", desk.add(3, 1, 0, 5, 6), 2);
        Check.equal("a small one by 0", desk.add(3, 1, 0, 0, 6), 1);
    }

    private static void multiplied() {
        AntiDesk desk = Check.desk("x+1", "x-1", "0", "1/2x^-1", "l");
        Check.equal("two", desk.times(5, 0, 1), 2);
        Check.equal("written", Check.written(desk, 5), "x^2-1");
        Check.equal("by nothing", desk.times(5, 0, 2), 0);
        Check.equal("nothing by it", desk.times(5, 2, 4), 0);
        Check.equal("nothing by nothing", desk.times(5, 2, 2), 0);
        Check.equal("gone", desk.terms(5), 0);
        Check.equal("powers below 0", desk.times(5, 0, 3), 2);
        Check.equal("written", Check.written(desk, 5), "1/2+1/2x^-1");
        Check.equal("with l", desk.times(5, 4, 0), 2);
        Check.equal("written", Check.written(desk, 5), "xl+l");
        Check.equal("into itself", desk.times(0, 0, 0), 3);
        Check.equal("written", Check.written(desk, 0), "x^2+2x+1");
        Check.equal("into the second", desk.times(1, 0, 1), 4);
        Check.equal("written", Check.written(desk, 1), "x^3+x^2-x-1");
    }

    // 101 is no product of two such numbers, 102 is 6 * 17; none of these products has forty terms.
    private static void hundredProducts() {
        AntiDesk desk = Check.desk(NINE, NINE, "x+1+x^-1+xl+l+x^-1l", "x+1+x^-1+l");
        Check.gather(desk, 0, 7, "l");
        Check.gather(desk, 1, 7, "x^4l+x^3l+x^2l+xl+l+x^-1l+x^-2l+x^-3l");
        Check.equal("10", desk.terms(0), 10);
        Check.equal("17", desk.terms(1), 17);
        Check.equal("10 by 10", desk.times(5, 0, 0), 27);
        Check.equal("17 by 6", desk.times(5, 1, 2), AntiDesk.FULL);
        Check.equal("6 by 17", desk.times(5, 2, 1), AntiDesk.FULL);
        Check.equal("nothing changes", desk.terms(5), 27);
        Check.equal("17 by 4", desk.times(5, 1, 3), 29);
        Check.gather(desk, 1, 7, "-x^-3l");
        Check.equal("16 by 6", desk.times(5, 1, 2), 31);
        Check.gather(desk, 2, 7, "-x^-1l");
        Check.gather(desk, 1, 7, "x^-3l+x^-4l+l^2+xl^2");
        Check.equal("20 by 5", desk.times(5, 1, 2), 35);
        Check.gather(desk, 1, 7, "x^-1l^2");
        Check.equal("21 by 5", desk.times(5, 1, 2), AntiDesk.FULL);
        Check.equal("21 by none", desk.times(5, 1, 6), 0);
    }

    private static void isKind(String a, String b) {
        AntiDesk desk = Check.desk(a, b, "7");
        Check.equal(a + " by " + b, desk.times(2, 0, 1), AntiDesk.KIND);
        Check.equal(b + " by " + a, desk.times(2, 1, 0), AntiDesk.KIND);
        Check.equal("nothing changes", Check.written(desk, 2), "7");
    }

    private static void isNoKind(String a, String b) {
        AntiDesk desk = Check.desk(a, b);
        Check.equal(a + " by " + b, desk.times(2, 0, 1) >= 0, true);
        Check.equal(b + " by " + a, desk.times(3, 1, 0) >= 0, true);
        Check.equal("one way as the other", desk.same(2, 3), true);
    }

    private static void kinds() {
        String[] sums = {"x", "l", "e(x)", "s(x)", "c(x)"};
        for (int i = 0; i < 5; i++) {
            for (int k = i; k < 5; k++) {
                if (i == 1 && k > 1 || i == 2 && k > 2) {
                    isKind(sums[i], sums[k]);
                    isKind("1+" + sums[i], "x^2+" + sums[k]);
                } else {
                    isNoKind(sums[i], sums[k]);
                    isNoKind("1+" + sums[i], "x^2+" + sums[k]);
                }
            }
        }
        isKind("e(2x)", "e(-2x)+s(x)");
        isKind("l+e(x)", "l+e(x)");
        isNoKind("1+x", "l+e(x)+s(x)+c(x)");
        isNoKind("0", "l+e(x)+s(x)+c(x)");
        isNoKind("s(x)+c(x)", "s(2x)-c(2x)");
    }

    // Without l these 5 by 4 waves make forty, with one more 48.
    private static void kindBeforeFull() {
        AntiDesk desk = Check.desk("x^-4s(x)+x^-2s(x)+s(x)+x^2s(x)+x^4s(x)+x^4c(2x)", "s(3x)+c(3x)+xs(3x)+xc(3x)", "l");
        Check.equal("too many", desk.times(3, 0, 1), AntiDesk.FULL);
        desk.add(0, 0, 2, 1, 1);
        Check.equal("too many, and a kind", desk.times(3, 0, 1), AntiDesk.KIND);
        Check.equal("the other way", desk.times(3, 1, 0), AntiDesk.KIND);
        Check.equal("nothing comes", desk.terms(3), 0);
    }

    private static void multiplies(String a, String b, String due) {
        AntiDesk desk = Check.desk(a, b);
        Check.equal(a + " by " + b + ": count", desk.times(2, 0, 1), desk.terms(2));
        Check.equal(a + " by " + b, Check.written(desk, 2), due);
    }

    private static void expsMultiplied() {
        multiplies("e(3x)", "e(3x)", "e(6x)");
        multiplies("e(-3x)", "e(-3x)", "e(-6x)");
        multiplies("e(x)", "e(-2x)", "e(-x)");
        multiplies("2xe(2x)", "1/6x^-3e(-2x)", "1/3x^-2");
        multiplies("e(x)+e(-x)", "e(x)-e(-x)", "-e(-2x)+e(2x)");
        multiplies("e(x)+e(-x)", "e(x)+e(-x)", "2+e(-2x)+e(2x)");
    }

    private static void wavesMultiplied() {
        multiplies("s(3x)", "s(x)", "1/2c(2x)-1/2c(4x)");
        multiplies("s(x)", "s(3x)", "1/2c(2x)-1/2c(4x)");
        multiplies("s(3x)", "s(3x)", "1/2-1/2c(6x)");
        multiplies("c(3x)", "c(x)", "1/2c(2x)+1/2c(4x)");
        multiplies("c(x)", "c(3x)", "1/2c(2x)+1/2c(4x)");
        multiplies("c(3x)", "c(3x)", "1/2+1/2c(6x)");
        multiplies("s(3x)", "c(x)", "1/2s(2x)+1/2s(4x)");
        multiplies("c(x)", "s(3x)", "1/2s(2x)+1/2s(4x)");
        multiplies("s(x)", "c(3x)", "-1/2s(2x)+1/2s(4x)");
        multiplies("c(3x)", "s(x)", "-1/2s(2x)+1/2s(4x)");
        multiplies("s(3x)", "c(3x)", "1/2s(6x)");
        multiplies("c(3x)", "s(3x)", "1/2s(6x)");
        multiplies("2x^4s(x)", "1/3x^-3c(2x)", "-1/3xs(x)+1/3xs(3x)");
        multiplies("100/6s(x)", "-100/6s(2x)", "-1250/9c(x)+1250/9c(3x)");
    }

    private static void multipliedNotSmall() {
        AntiDesk desk = Check.desk("101", "x", "0", "1/7l", "e(x)");
        Check.throwsState("first", () -> desk.times(5, 0, 1));
        Check.throwsState("second", () -> desk.times(5, 1, 0));
        Check.throwsState("both", () -> desk.times(5, 0, 0));
        Check.throwsState("with nothing", () -> desk.times(5, 2, 0));
        Check.throwsState("nothing with it", () -> desk.times(5, 0, 2));
        Check.throwsState("before KIND", () -> desk.times(5, 3, 4));
        Check.throwsState("before KIND, the other way", () -> desk.times(5, 4, 3));
        Check.read(desk, 0, NINE);
        Check.gather(desk, 0, 7, "l+l^2");
        desk.add(1, 0, 5, 1, 1);
        Check.equal("11 by 11", desk.times(5, 0, 1), AntiDesk.FULL);
        Check.gather(desk, 1, 7, "l^4");
        Check.throwsState("before FULL", () -> desk.times(5, 0, 1));
        Check.equal("nothing comes", desk.terms(5), 0);
    }

    private static void derives(String sum, String due) {
        AntiDesk desk = Check.desk(sum);
        Check.equal(sum + " derived: count", desk.derive(1, 0), desk.terms(1));
        Check.equal(sum + " derived", Check.written(desk, 1), due);
        desk.derive(0, 0);
        Check.equal(sum + " derived into itself", desk.same(0, 1), true);
    }

    private static void derived() {
        derives("0", "0");
        derives("7", "0");
        derives("7x", "7");
        derives("x^12", "12x^11");
        derives("x^-11", "-11x^-12");
        derives("l", "x^-1");
        derives("l^9", "9x^-1l^8");
        derives("x^12l^9", "9x^11l^8+12x^11l^9");
        derives("x^-11l", "x^-12-11x^-12l");
        derives("e(9x)", "9e(9x)");
        derives("x^12e(-9x)", "-9x^12e(-9x)+12x^11e(-9x)");
        derives("s(9x)", "9c(9x)");
        derives("c(9x)", "-9s(9x)");
        derives("xs(x)", "s(x)+xc(x)");
        derives("xc(x)", "-xs(x)+c(x)");
        derives("1/2x^2+1/2x", "x+1/2");
        derives("x^2l-1/2x^2", "2xl");
        AntiDesk desk = Check.desk("x^-12", "x^-12c(x)", "7");
        Check.equal("a power below", desk.derive(2, 0), AntiDesk.FULL);
        Check.equal("with cos", desk.derive(2, 1), AntiDesk.FULL);
        Check.equal("nothing changes", Check.written(desk, 2), "7");
        Check.read(desk, 0, "999x^12l^9-999/998x^5");
        Check.equal("not small", desk.derive(2, 0), 3);
    }

    private static final String[] FUNCTIONS = {"", "l", "l^2", "l^3", "e(x)", "e(2x)", "e(3x)", "e(-x)", "e(-2x)",
        "e(-3x)", "s(x)", "s(2x)", "s(3x)", "c(x)", "c(2x)", "c(3x)"};

    /** Slots 1 and 2 have the integral and the rest of slot 0. */
    private static AntiDesk integrated(String sum) {
        AntiDesk desk = Check.desk(sum, "l+5", "l+6");
        Check.equal(sum + " integrated: count", desk.integrate(1, 2, 0), desk.terms(2));
        return desk;
    }

    private static void together() {
        for (String function : FUNCTIONS) {
            for (int power = -4; power <= 4; power++) {
                comesBack("-100x^" + power + function);
                comesBack("5/6x^" + power + function + "-1/6x^-4" + function + "+7/6x^3" + function + "-x");
            }
        }
    }

    private static void comesBack(String sum) {
        AntiDesk desk = integrated(sum);
        Check.equal(sum + " derived", desk.derive(3, 1) >= 0, true);
        Check.equal(sum + " and its rest", desk.add(3, 3, 2, 1, 1), desk.terms(0));
        Check.equal(sum + " comes back", desk.same(3, 0), true);
    }

    private static void noConstant() {
        for (String function : FUNCTIONS) {
            for (int power = -4; power <= 4; power++) {
                String sum = "x^" + power + function;
                AntiDesk desk = integrated(sum);
                for (int i = desk.terms(1) - 1; i >= 0; i--) {
                    boolean constant = desk.term(1, i, 2) == 0 && desk.term(1, i, 4) == 0;
                    Check.equal(sum + ": a constant", constant, false);
                }
            }
        }
        Check.equal("1 / x", Check.written(integrated("x^-1"), 1), "l");
        Check.equal("1", Check.written(integrated("1"), 1), "x");
    }

    private static void rests() {
        for (String function : FUNCTIONS) {
            for (int power = -4; power <= 4; power++) {
                String sum = "x^" + power + function;
                AntiDesk desk = integrated(sum);
                boolean rest = power < 0 && "esc".indexOf((function + "l").charAt(0)) >= 0;
                Check.equal(sum + ": rests", desk.terms(2), rest ? 1 : 0);
                if (rest) {
                    Check.equal(sum + ": its kind", desk.term(2, 0, 2) >= 2, true);
                    Check.equal(sum + ": its power", desk.term(2, 0, 4), -1L);
                }
            }
        }
    }

    private static void integrates(String sum, String due, String rest, int count) {
        AntiDesk desk = integrated(sum);
        Check.equal(sum + " integrated", Check.written(desk, 1), due);
        Check.equal(sum + ": rest", Check.written(desk, 2), rest);
        Check.equal(sum + ": rests", desk.terms(2), count);
    }

    private static void howManyRests() {
        integrates("xe(x)", "xe(x)-e(x)", "0", 0);
        integrates("x^-1e(x)", "0", "x^-1e(x)", 1);
        integrates("x^-1e(x)-x^-2e(x)", "x^-1e(x)", "0", 0);
        integrates("x^-1e(x)+x^-2s(x)", "-x^-1s(x)", "x^-1e(x)+x^-1c(x)", 2);
        integrates("x^-1s(x)+x^-1c(x)+x^-1e(-3x)", "0", "x^-1e(-3x)+x^-1s(x)+x^-1c(x)", 3);
        integrates("x^-4e(3x)", "-3/2x^-1e(3x)-1/2x^-2e(3x)-1/3x^-3e(3x)", "9/2x^-1e(3x)", 1);
        integrates("x^-1l^3", "1/4l^4", "0", 0);
        integrates("x^-4l", "-1/9x^-3-1/3x^-3l", "0", 0);
    }

    private static void oneSlot() {
        AntiDesk desk = Check.desk("x^-2e(x)", "7", "x");
        Check.equal("a rest", desk.integrate(1, 1, 0), 1);
        Check.equal("G is what stays", Check.written(desk, 1), "x^-1e(x)");
        Check.equal("the sum stays, too", Check.written(desk, 0), "x^-2e(x)");
        Check.equal("no rest", desk.integrate(1, 1, 2), 0);
        Check.equal("nothing stays", desk.terms(1), 0);
        Check.equal("all three one slot", desk.integrate(0, 0, 0), 1);
        Check.equal("G stays there", Check.written(desk, 0), "x^-1e(x)");
        Check.read(desk, 0, "x^-2e(x)");
        Check.equal("F for a", desk.integrate(0, 1, 0), 1);
        Check.equal("F", Check.written(desk, 0), "-x^-1e(x)");
        Check.equal("G", Check.written(desk, 1), "x^-1e(x)");
        Check.read(desk, 0, "x^-2e(x)");
        Check.equal("G for a", desk.integrate(1, 0, 0), 1);
        Check.equal("F", Check.written(desk, 1), "-x^-1e(x)");
        Check.equal("G", Check.written(desk, 0), "x^-1e(x)");
    }

    private static void nothingIntegrated() {
        AntiDesk desk = Check.desk("0", "7", "x");
        Check.equal("no terms", desk.integrate(1, 2, 0), 0);
        Check.equal("no F", desk.terms(1), 0);
        Check.equal("no G", desk.terms(2), 0);
        Check.equal("F written", Check.written(desk, 1), "0");
    }

    private static void integratedNotSmall() {
        for (String sum : new String[] {"101", "-101", "1/7", "x^5", "x^-5", "l^4", "e(4x)", "e(-4x)", "s(4x)", "c(4x)",
            "x+1+c(4x)"}) {
            AntiDesk desk = Check.desk(sum, "7", "x");
            Check.throwsState(sum, () -> desk.integrate(1, 2, 0));
            Check.equal(sum + ": nothing changes", Check.written(desk, 1), "7");
            Check.equal(sum + ": nor in the rest", Check.written(desk, 2), "x");
        }
        AntiDesk desk = Check.desk("-100/3x^4l^3+1/6x^-4e(-3x)+100s(3x)-5/6c(3x)");
        Check.equal("just small", desk.integrate(1, 2, 0), 1);
    }

    private static void isOther(String a, String b) {
        AntiDesk desk = Check.desk(a, b);
        Check.equal(a + " and " + b, desk.same(0, 1), false);
        Check.equal(b + " and " + a, desk.same(1, 0), false);
    }

    private static void same() {
        AntiDesk desk = Check.desk("x+1/2l", "2/4l+x", "0", "x-x");
        Check.equal("told in another way", desk.same(0, 1), true);
        Check.equal("itself", desk.same(0, 0), true);
        Check.equal("none and none", desk.same(2, 3), true);
        Check.equal("a new one", desk.same(2, 7), true);
        isOther("x", "0");
        isOther("x", "-x");
        isOther("2x", "3x");
        isOther("1/2x", "1/3x");
        isOther("x", "x^2");
        isOther("x", "x^-1");
        isOther("l", "l^2");
        isOther("l", "e(x)");
        isOther("e(x)", "e(-x)");
        isOther("s(x)", "c(x)");
        isOther("s(x)", "s(2x)");
        isOther("x+1", "x");
        isOther("x+1", "x+1+l");
        isOther("x+1+c(x)", "x+1+c(2x)");
        isOther("x+1+c(x)", "x+2+c(x)");
    }

    private static void terms() {
        AntiDesk desk = Check.desk("0", "x", "x+1+l");
        Check.equal("none", desk.terms(0), 0);
        Check.equal("one", desk.terms(1), 1);
        Check.equal("three", desk.terms(2), 3);
        for (String function : new String[] {"", "l", "e(x)", "s(x)", "c(x)"}) {
            Check.gather(desk, 0, 7, "x^4F+x^3F+x^2F+xF+x^-1F+x^-2F+x^-3F+x^-4F".replace("F", function));
        }
        Check.equal("forty", desk.terms(0), 40);
        Check.equal("the last of forty", desk.term(0, 39, 4), -4L);
        Check.equal("none behind it", desk.term(0, 40, 1), 0L);
    }

    private static void termsInOrder() {
        AntiDesk desk = Check.desk("5c(x)+4s(x)+3e(x)+2e(-x)-l+7x^-1+9x");
        long[] tops = {9, 7, -1, 2, 3, 4, 5};
        for (int i = 0; i < tops.length; i++) {
            Check.equal("term " + i, desk.term(0, i, 0), tops[i]);
        }
    }

    private static void parts() {
        AntiDesk desk = Check.desk("-2/3", "x", "3/2x^-12l^9", "x^12e(-9x)", "-s(-9x)", "-997/999x^2c(3x)");
        Check.isTerm(desk, 0, 0, -2, 3, 0, 0, 0);
        Check.isTerm(desk, 1, 0, 1, 1, 0, 0, 1);
        Check.isTerm(desk, 2, 0, 3, 2, 1, 9, -12);
        Check.isTerm(desk, 3, 0, 1, 1, 2, -9, 12);
        Check.isTerm(desk, 4, 0, 1, 1, 3, 9, 0);
        Check.isTerm(desk, 5, 0, -997, 999, 4, 3, 2);
        // More than an int has room for.
        AntiDesk other = new AntiDesk();
        Check.grow(other, 0, 1, "x", 10_000_000_000L);
        Check.isTerm(other, 0, 0, 10_000_000_000L, 1, 0, 0, 1);
    }

    private static void noTerm() {
        AntiDesk desk = Check.desk("x^2l+3e(2x)", "x+1+l");
        Check.isTerm(desk, 0, 1, 3, 1, 2, 2, 0);
        for (int i : new int[] {2, 3, 39, 40, 41, 1000, -1, -2, Integer.MAX_VALUE, Integer.MIN_VALUE}) {
            Check.isTerm(desk, 0, i, 0, 0, 0, 0, 0);
            Check.equal("of an empty slot, " + i, desk.term(7, i, 1), 0L);
        }
        Check.read(desk, 1, "x");
        Check.isTerm(desk, 1, 1, 0, 0, 0, 0, 0);
        Check.isTerm(desk, 7, 0, 0, 0, 0, 0, 0);
    }

    private static void noPart() {
        AntiDesk desk = Check.desk("x^2l+3e(2x)");
        for (int what : new int[] {-1, 5, 6, Integer.MAX_VALUE, Integer.MIN_VALUE}) {
            Check.throwsArgument("what " + what, () -> desk.term(0, 0, what));
            Check.throwsArgument("what " + what + " of none", () -> desk.term(0, 2, what));
            Check.throwsArgument("what " + what + " of none before", () -> desk.term(0, -1, what));
            Check.throwsArgument("what " + what + " of an empty slot", () -> desk.term(7, 0, what));
        }
        for (int slot : new int[] {-1, 8}) {
            Check.throwsArgument("slot " + slot, () -> desk.term(slot, 0, 0));
            Check.throwsArgument("slot " + slot + ", none", () -> desk.term(slot, 9, 0));
            Check.throwsArgument("slot " + slot + ", what", () -> desk.term(slot, 0, 5));
        }
        for (int what = 0; what < 5; what++) {
            int part = what;
            Check.equal("what " + what, Check.thrownBy(() -> desk.term(0, 0, part)), "nothing");
        }
    }
}
