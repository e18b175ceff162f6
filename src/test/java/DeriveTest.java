/** Promise 10: derive. */
public final class DeriveTest {
    public static void main(String[] args) {
        derivatives();
        sameSlot();
        powersBelow();
        bounds();
        moreThanForty();
        wrongNumbers();
        Check.finish();
    }

    private static void derives(String sum, String due) {
        AntiDesk desk = Check.desk(sum);
        int count = desk.derive(1, 0);
        Check.equal(sum + " derived", Check.written(desk, 1), due);
        Check.equal(sum + " derived: count", count, desk.terms(1));
    }

    private static void derivatives() {
        derives("0", "0");
        derives("5", "0");
        derives("x", "1");
        derives("1/2x^2-3x^-3", "x+9x^-4");
        derives("x^12-x^-11", "12x^11+11x^-12");
        derives("l", "x^-1");
        derives("l^9", "9x^-1l^8");
        derives("x^2l", "x+2xl");
        derives("xl^2", "2l+l^2");
        derives("e(2x)", "2e(2x)");
        derives("x^2e(-x)", "-x^2e(-x)+2xe(-x)");
        derives("x^-1e(x)", "x^-1e(x)-x^-2e(x)");
        derives("s(3x)", "3c(3x)");
        derives("c(3x)", "-3s(3x)");
        derives("xs(x)+c(x)", "xc(x)");
        derives("xe(x)-e(x)", "xe(x)");
        derives("1/6x^2c(2x)", "-1/3x^2s(2x)+1/3xc(2x)");
    }

    private static void sameSlot() {
        AntiDesk desk = Check.desk("x^3+x");
        Check.equal("into itself", desk.derive(0, 0), 2);
        Check.equal("written", Check.written(desk, 0), "3x^2+1");
    }

    private static void isFull(String sum) {
        AntiDesk desk = Check.desk(sum, "7");
        Check.equal(sum, desk.derive(1, 0), AntiDesk.FULL);
        Check.equal(sum + ": nothing changes", Check.written(desk, 1), "7");
    }

    private static void powersBelow() {
        isFull("x^-12");
        isFull("x^-12l^2");
        isFull("x^-12e(x)");
        isFull("x^-12s(x)");
        isFull("1+x+x^-12c(x)");
    }

    private static void bounds() {
        AntiDesk desk = Check.desk("999x^12e(9x)");
        for (int i = 0; i < 5; i++) {
            Check.equal("derived " + i, desk.derive(0, 0), i + 2);
        }
        Check.equal("beyond", desk.derive(0, 0), AntiDesk.FULL);
        Check.equal("nothing changes", desk.term(0, 0, 0), 58989951L);

        AntiDesk other = Check.desk("1/997x^3l+1/991x^3l^2");
        Check.equal("a denominator beyond", other.derive(1, 0), AntiDesk.FULL);
        cancelling();
    }

    // Twice 5,997,854,720 is beyond the bounds, but only what comes in the end counts.
    private static void cancelling() {
        long size = 715L << 23;
        AntiDesk desk = Check.desk("715x^2e(x)-715xe(x)", "715x^2e(x)+715xe(x)");
        for (int i = 0; i < 23; i++) {
            desk.add(0, 0, 0, 1, 1);
            desk.add(1, 1, 1, 1, 1);
        }
        Check.equal("within", desk.derive(2, 0), 3);
        Check.equal("twice less once", desk.term(2, 1, 0), size);
        Check.equal("twice and once", desk.derive(2, 1), AntiDesk.FULL);
        Check.equal("nothing changes", desk.term(2, 2, 0), -size);
    }

    private static void moreThanForty() {
        AntiDesk desk = new AntiDesk();
        for (int n = 1; n <= 4; n++) {
            for (int power = 11; power > 0; power -= 2) {
                Check.gather(desk, 0, 7, "x^" + power + "e(" + n + "x)");
            }
        }
        Check.equal("24 make 48", desk.derive(1, 0), AntiDesk.FULL);
        Check.equal("nothing changes", desk.terms(1), 0);
        Check.gather(desk, 0, 7, "-x^11e(x)-x^9e(x)-x^7e(x)-x^5e(x)");
        Check.equal("20 make 40", desk.derive(1, 0), 40);
    }

    private static void wrongNumbers() {
        AntiDesk desk = Check.desk("x");
        for (int slot : new int[] {-1, 8, Integer.MIN_VALUE, Integer.MAX_VALUE}) {
            Check.throwsArgument("to " + slot, () -> desk.derive(slot, 0));
            Check.throwsArgument("a " + slot, () -> desk.derive(0, slot));
        }
        Check.equal("nothing changes", Check.written(desk, 0), "x");
    }
}
