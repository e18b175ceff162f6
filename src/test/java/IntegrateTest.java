/** Promise 11: integrate. */
public final class IntegrateTest {
    public static void main(String[] args) {
        plainAndLogs();
        exps();
        waves();
        restsThatGo();
        backAgain();
        sameSlots();
        moreThanForty();
        smallness();
        wrongNumbers();
        Check.finish();
    }

    private static void integrates(String sum, String due, String rest) {
        AntiDesk desk = Check.desk(sum);
        int count = desk.integrate(1, 2, 0);
        Check.equal(sum + " integrated", Check.written(desk, 1), due);
        Check.equal(sum + ": rest", Check.written(desk, 2), rest);
        Check.equal(sum + ": count", count, desk.terms(2));
    }

    private static void plainAndLogs() {
        integrates("0", "0", "0");
        integrates("5", "5x", "0");
        integrates("x^4-x^-4", "1/5x^5+1/3x^-3", "0");
        integrates("2x^-1", "2l", "0");
        integrates("x^-1l^3", "1/4l^4", "0");
        integrates("l", "-x+xl", "0");
        integrates("x^-2l", "-x^-1-x^-1l", "0");
        integrates("xl^2", "1/4x^2-1/2x^2l+1/2x^2l^2", "0");
        integrates("100x^4l^3", "-24/25x^5+24/5x^5l-12x^5l^2+20x^5l^3", "0");
    }

    private static void exps() {
        integrates("e(-3x)", "-1/3e(-3x)", "0");
        integrates("xe(x)", "xe(x)-e(x)", "0");
        integrates("x^2e(-x)", "-x^2e(-x)-2xe(-x)-2e(-x)", "0");
        integrates("x^-1e(x)", "0", "x^-1e(x)");
        integrates("x^-2e(2x)", "-x^-1e(2x)", "2x^-1e(2x)");
        integrates("x^-4e(-x)", "-1/6x^-1e(-x)+1/6x^-2e(-x)-1/3x^-3e(-x)", "-1/6x^-1e(-x)");
    }

    private static void waves() {
        integrates("s(2x)", "-1/2c(2x)", "0");
        integrates("c(2x)", "1/2s(2x)", "0");
        integrates("xs(x)", "s(x)-xc(x)", "0");
        integrates("x^2c(x)", "x^2s(x)-2s(x)+2xc(x)", "0");
        integrates("x^-1s(3x)-5x^-1c(x)", "0", "x^-1s(3x)-5x^-1c(x)");
        integrates("x^-2s(3x)", "-x^-1s(3x)", "3x^-1c(3x)");
        integrates("x^-2c(3x)", "-x^-1c(3x)", "-3x^-1s(3x)");
        integrates("x^-3s(x)", "-1/2x^-2s(x)-1/2x^-1c(x)", "-1/2x^-1s(x)");
    }

    private static void restsThatGo() {
        integrates("x^-1e(x)-x^-2e(x)", "x^-1e(x)", "0");
        integrates("x^-1c(x)-x^-2s(x)", "x^-1s(x)", "0");
        integrates("x^-1e(x)+x^-1e(-x)-x^-2e(x)", "x^-1e(x)", "x^-1e(-x)");
    }

    /** G and the derivative of F are a, for every small function and power. */
    private static void backAgain() {
        String[] functions = {"", "l", "l^2", "l^3", "e(x)", "e(2x)", "e(3x)", "e(-x)", "e(-2x)",
            "e(-3x)", "s(x)", "s(2x)", "s(3x)", "c(x)", "c(2x)", "c(3x)"};
        for (String function : functions) {
            for (int power = -4; power <= 4; power++) {
                goesBack("-97/5x^" + power + function);
                goesBack("50/3x^" + power + function + "+5x^-4" + function + "-1/6x^4" + function);
            }
        }
    }

    private static void goesBack(String sum) {
        AntiDesk desk = Check.desk(sum);
        int count = desk.integrate(1, 2, 0);
        Check.equal(sum + ": rest", count, desk.terms(2));
        for (int i = 0; i < count; i++) {
            Check.equal(sum + ": rest's kind", desk.term(2, i, 2) >= 2, true);
            Check.equal(sum + ": rest's power", desk.term(2, i, 4), -1L);
        }
        for (int i = 0; i < desk.terms(1); i++) {
            boolean constant = desk.term(1, i, 2) == 0 && desk.term(1, i, 4) == 0;
            Check.equal(sum + ": constant", constant, false);
        }
        desk.derive(3, 1);
        desk.add(3, 3, 2, 1, 1);
        Check.equal(sum + " comes back", desk.same(3, 0), true);
    }

    private static void sameSlots() {
        AntiDesk desk = Check.desk("x^-2e(x)");
        desk.integrate(0, 1, 0);
        Check.equal("into itself", Check.written(desk, 0), "-x^-1e(x)");
        Check.equal("rest", Check.written(desk, 1), "x^-1e(x)");
        Check.read(desk, 0, "x^-2e(x)");
        desk.integrate(1, 0, 0);
        Check.equal("rest into itself", Check.written(desk, 0), "x^-1e(x)");
        Check.equal("F", Check.written(desk, 1), "-x^-1e(x)");
        Check.read(desk, 0, "x^-2e(x)");
        Check.equal("both in one", desk.integrate(2, 2, 0), 1);
        Check.equal("the rest, told last", Check.written(desk, 2), "x^-1e(x)");
        Check.read(desk, 0, "x");
        Check.equal("all in one", desk.integrate(0, 0, 0), 0);
        Check.equal("the rest of none", Check.written(desk, 0), "0");
    }

    private static void moreThanForty() {
        AntiDesk desk = Check.desk("0", "7", "x");
        for (int n = -3; n <= 3; n++) {
            if (n != 0) {
                Check.gather(desk, 0, 7, "x^4e(" + n + "x)");
            }
        }
        Check.gather(desk, 0, 7, "x^4s(x)+x^4s(2x)");
        Check.equal("eight make forty", desk.integrate(3, 4, 0), 0);
        Check.equal("forty", desk.terms(3), 40);
        Check.gather(desk, 0, 7, "1");
        Check.equal("forty-one", desk.integrate(1, 2, 0), AntiDesk.FULL);
        Check.equal("nothing changes", Check.written(desk, 1), "7");
        Check.equal("nor here", Check.written(desk, 2), "x");
        Check.equal("also in one", desk.integrate(1, 1, 0), AntiDesk.FULL);
    }

    private static void notSmall(String sum) {
        AntiDesk desk = Check.desk(sum, "7", "x");
        Check.throwsState(sum, () -> desk.integrate(1, 2, 0));
        Check.equal(sum + ": nothing changes", Check.written(desk, 1), "7");
        Check.equal(sum + ": nor here", Check.written(desk, 2), "x");
    }

    private static void smallness() {
        notSmall("101");
        notSmall("-101");
        notSmall("1/7");
        notSmall("x^5");
        notSmall("x^-5");
        notSmall("l^4");
        notSmall("e(4x)");
        notSmall("e(-4x)");
        notSmall("s(4x)");
        notSmall("1+c(4x)");
    }

    private static void wrongNumbers() {
        AntiDesk desk = Check.desk("x", "101");
        for (int slot : new int[] {-1, 8, Integer.MIN_VALUE, Integer.MAX_VALUE}) {
            Check.throwsArgument("to " + slot, () -> desk.integrate(slot, 0, 0));
            Check.throwsArgument("rest " + slot, () -> desk.integrate(0, slot, 0));
            Check.throwsArgument("a " + slot, () -> desk.integrate(0, 0, slot));
            Check.throwsArgument("before not small " + slot, () -> desk.integrate(slot, 0, 1));
        }
        Check.equal("nothing changes", Check.written(desk, 0), "x");
    }
}
