/** Promises 12, 13 and 14: same, terms and term. */
public final class LookTest {
    public static void main(String[] args) {
        same();
        terms();
        term();
        none();
        wrongNumbers();
        Check.finish();
    }

    private static void same() {
        AntiDesk desk = Check.desk("x+1/2", "2/4+x", "x+1/3", "x-1/2", "x^2+1/2", "x", "xe(x)+1/2", "xe(-x)+1/2");
        Check.equal("the same", desk.same(0, 1), true);
        Check.equal("itself", desk.same(2, 2), true);
        for (int slot = 2; slot < 8; slot++) {
            Check.equal("other " + slot, desk.same(0, slot), false);
            Check.equal("other way " + slot, desk.same(slot, 0), false);
        }
        Check.equal("exps", desk.same(6, 7), false);
        AntiDesk two = Check.desk("s(x)", "c(x)", "1/2x", "1/3x", "2x");
        Check.equal("kinds", two.same(0, 1), false);
        Check.equal("denominators", two.same(2, 3), false);
        Check.equal("numerators", two.same(2, 4), false);
        Check.equal("empty ones", two.same(6, 7), true);
        Check.equal("an empty one", two.same(0, 7), false);
    }

    private static void terms() {
        AntiDesk desk = Check.desk("x+1-x", "x+1+l", "x-x");
        Check.equal("one", desk.terms(0), 1);
        Check.equal("three", desk.terms(1), 3);
        Check.equal("none", desk.terms(2), 0);
        Check.equal("never told", desk.terms(7), 0);
    }

    private static void term() {
        AntiDesk desk = new AntiDesk();
        Check.read(desk, 5, "4c(7x)-3/9x^-12s(2x)+x^3e(-9x)-l^2+x^12-6/4x^-1+100");
        Check.isTerm(desk, 5, 0, 1, 1, 0, 0, 12);
        Check.isTerm(desk, 5, 1, 100, 1, 0, 0, 0);
        Check.isTerm(desk, 5, 2, -3, 2, 0, 0, -1);
        Check.isTerm(desk, 5, 3, -1, 1, 1, 2, 0);
        Check.isTerm(desk, 5, 4, 1, 1, 2, -9, 3);
        Check.isTerm(desk, 5, 5, -1, 3, 3, 2, -12);
        Check.isTerm(desk, 5, 6, 4, 1, 4, 7, 0);
        Check.isTerm(desk, 5, 7, 0, 0, 0, 0, 0);
    }

    private static void none() {
        AntiDesk desk = Check.desk("x+1/2");
        for (int i : new int[] {-1, 2, 39, 40, 41, Integer.MAX_VALUE, Integer.MIN_VALUE}) {
            for (int what = 0; what < 5; what++) {
                Check.equal("none " + i + " part " + what, desk.term(0, i, what), 0L);
            }
        }
        Check.read(desk, 0, "3");
        Check.equal("gone", desk.term(0, 1, 1), 0L);
    }

    private static void wrongNumbers() {
        AntiDesk desk = Check.desk("x");
        for (int slot : new int[] {-1, 8, Integer.MIN_VALUE, Integer.MAX_VALUE}) {
            Check.throwsArgument("same a " + slot, () -> desk.same(slot, 0));
            Check.throwsArgument("same b " + slot, () -> desk.same(0, slot));
            Check.throwsArgument("terms " + slot, () -> desk.terms(slot));
            Check.throwsArgument("term " + slot, () -> desk.term(slot, 0, 0));
        }
        for (int what : new int[] {-1, 5, Integer.MIN_VALUE, Integer.MAX_VALUE}) {
            Check.throwsArgument("what " + what, () -> desk.term(0, 0, what));
            Check.throwsArgument("what of none " + what, () -> desk.term(0, 9, what));
        }
    }
}
