/** Promise 9: times. */
public final class TimesTest {
    public static void main(String[] args) {
        plain();
        logsAndExps();
        waves();
        kinds();
        hundredProducts();
        moreThanForty();
        smallness();
        wrongNumbers();
        Check.finish();
    }

    private static void multiplies(String a, String b, String due) {
        AntiDesk desk = Check.desk(a, b);
        int count = desk.times(2, 0, 1);
        Check.equal(a + " times " + b, Check.written(desk, 2), due);
        Check.equal(a + " times " + b + ": count", count, desk.terms(2));
        desk.times(0, 1, 0);
        Check.equal(b + " times " + a, desk.same(0, 2), true);
    }

    private static void plain() {
        multiplies("x+1", "x-1", "x^2-1");
        multiplies("0", "x-1", "0");
        multiplies("0", "0", "0");
        multiplies("100/3x^4", "-100/6x^4", "-5000/9x^8");
        multiplies("1/5x^-4", "1/6x^-4", "1/30x^-8");
        multiplies("2/3x", "3/2x^-1", "1");
    }

    private static void logsAndExps() {
        multiplies("l^3", "2xl^3", "2xl^6");
        multiplies("l-x", "l+x", "-x^2+l^2");
        multiplies("e(3x)", "e(3x)", "e(6x)");
        multiplies("e(-3x)", "xe(-3x)", "xe(-6x)");
        multiplies("e(2x)+x", "e(-2x)", "1+xe(-2x)");
        multiplies("1/2l", "4x", "2xl");
    }

    private static void waves() {
        multiplies("s(3x)", "s(2x)", "1/2c(x)-1/2c(5x)");
        multiplies("s(2x)", "s(2x)", "1/2-1/2c(4x)");
        multiplies("c(3x)", "c(x)", "1/2c(2x)+1/2c(4x)");
        multiplies("c(3x)", "c(3x)", "1/2+1/2c(6x)");
        multiplies("s(3x)", "c(x)", "1/2s(2x)+1/2s(4x)");
        multiplies("s(x)", "c(3x)", "-1/2s(2x)+1/2s(4x)");
        multiplies("xs(x)", "x^2c(x)", "1/2x^3s(2x)");
        multiplies("s(x)+c(x)", "s(x)-c(x)", "-c(2x)");
        multiplies("2x", "1/3s(x)+c(x)", "2/3xs(x)+2xc(x)");
        multiplies("1+s(x)", "1-s(x)", "1/2+1/2c(2x)");
    }

    private static void isKind(String a, String b) {
        AntiDesk desk = Check.desk(a, b, "7");
        Check.equal(a + " times " + b, desk.times(2, 0, 1), AntiDesk.KIND);
        Check.equal(b + " times " + a, desk.times(2, 1, 0), AntiDesk.KIND);
        Check.equal("nothing changes", Check.written(desk, 2), "7");
    }

    private static void kinds() {
        isKind("l", "e(x)");
        isKind("l", "s(x)");
        isKind("l", "c(x)");
        isKind("e(x)", "s(x)");
        isKind("e(x)", "c(x)");
        isKind("1+x+l", "x+c(3x)");
        AntiDesk desk = Check.desk("l+e(x)");
        Check.equal("by itself", desk.times(0, 0, 0), AntiDesk.KIND);
    }

    private static void hundredProducts() {
        String nine = "1+x+x^2+x^3+x^4+x^-1+x^-2+x^-3+x^-4";
        AntiDesk desk = new AntiDesk();
        Check.gather(desk, 0, 7, nine, "l");
        Check.gather(desk, 1, 7, nine, "xl", "l");
        Check.gather(desk, 2, 7, nine, "e(x)", "e(2x)");
        Check.equal("100", desk.times(3, 0, 0), 27);
        Check.equal("110", desk.times(3, 1, 0), AntiDesk.FULL);
        Check.equal("110, before KIND", desk.times(3, 0, 2), AntiDesk.FULL);
        Check.equal("nothing changes", desk.terms(3), 27);
        AntiDesk other = Check.desk("l", nine + "+e(x)");
        Check.equal("10, KIND", other.times(2, 0, 1), AntiDesk.KIND);
    }

    // Powers and multiples such that no two products are the same.
    private static void moreThanForty() {
        AntiDesk desk = Check.desk("x^-4s(x)+x^-2s(x)+s(x)+x^2s(x)+x^4s(x)+l^0", "s(3x)+c(3x)+xs(3x)+xc(3x)", "x+1");
        Check.equal("44", desk.times(2, 0, 1), AntiDesk.FULL);
        Check.equal("nothing changes", Check.written(desk, 2), "x+1");
        Check.read(desk, 0, "x^-4s(x)+x^-2s(x)+s(x)+x^2s(x)+x^4s(x)");
        Check.equal("40", desk.times(2, 0, 1), 40);
    }

    private static void notSmall(String sum) {
        AntiDesk desk = Check.desk(sum, "1");
        Check.throwsState(sum, () -> desk.times(2, 0, 1));
        Check.throwsState(sum + ", second", () -> desk.times(2, 1, 0));
        Check.throwsState(sum + ", with nothing", () -> desk.times(2, 3, 0));
    }

    private static void smallness() {
        notSmall("101");
        notSmall("1/7");
        notSmall("x^5");
        notSmall("x^-5");
        notSmall("l^4");
        notSmall("e(-4x)");
        notSmall("s(4x)");
        notSmall("c(4x)");
        AntiDesk desk = Check.desk("101l", "e(x)");
        Check.throwsState("before KIND", () -> desk.times(2, 0, 1));
    }

    private static void wrongNumbers() {
        AntiDesk desk = Check.desk("x", "101");
        for (int slot : new int[] {-1, 8, Integer.MIN_VALUE, Integer.MAX_VALUE}) {
            Check.throwsArgument("to " + slot, () -> desk.times(slot, 0, 0));
            Check.throwsArgument("a " + slot, () -> desk.times(0, slot, 0));
            Check.throwsArgument("b " + slot, () -> desk.times(0, 0, slot));
            Check.throwsArgument("before not small " + slot, () -> desk.times(slot, 1, 1));
        }
        Check.equal("nothing changes", Check.written(desk, 0), "x");
    }
}
