/** What a call answers is what counts: not how many terms there are, or how great they are, on the way there. */
public final class OnTheWayTest {
    private static final String[] WAVES = {"s(x)", "s(2x)", "s(3x)", "c(x)", "c(2x)", "c(3x)"};
    private static final String[] EXPS = {"e(-x)", "e(x)", "e(2x)", "e(3x)"};

    public static void main(String[] args) {
        Check.sentence("or there are more than 40", OnTheWayTest::added);
        Check.sentence("or there are more than 40", OnTheWayTest::multiplied);
        Check.sentence("or there are more than 40", OnTheWayTest::derived);
        Check.sentence("or there are more than 40", OnTheWayTest::integrated);
        Check.sentence("or beyond BOUNDS", OnTheWayTest::boundsDerived);
        Check.finish();
    }

    private static String each(String sum, String function) {
        return sum.replace("F", function);
    }

    /** Twenty others come before twenty that are there go. */
    private static void added() {
        AntiDesk desk = new AntiDesk();
        for (String function : EXPS) {
            Check.gather(desk, 0, 7, each("x^4F+x^3F+x^2F+xF+F", function));
            Check.gather(desk, 1, 7, each("-x^4F-x^3F-x^2F-xF-F", function));
        }
        for (String function : new String[] {"s(x)", "s(2x)", "c(x)", "c(2x)"}) {
            Check.gather(desk, 0, 7, each("x^4F+x^3F+x^2F+xF+F", function));
        }
        for (String function : new String[] {"", "l", "l^2", "l^3"}) {
            Check.gather(desk, 1, 7, each("x^5F+x^4F+x^3F+x^2F+xF", function));
        }
        Check.equal("40 there", desk.terms(0), 40);
        Check.equal("40 to add", desk.terms(1), 40);
        Check.equal("40", desk.add(2, 0, 1, 1, 1), 40);
        Check.equal("the first", desk.term(2, 0, 4), 5L);
        Check.equal("40, the other way", desk.add(3, 1, 0, 1, 1), 40);
        Check.equal("the same", desk.same(2, 3), true);
        Check.equal("40 less themselves", desk.add(2, 2, 3, -1, 1), 0);
    }

    /** (A + B)(A - B) is A A - B B: what A times B makes comes, and goes again. */
    private static void multiplied() {
        AntiDesk desk = new AntiDesk();
        Check.gather(desk, 0, 7, "x^4s(x)+xs(3x)+s(2x)+x^-3s(3x)+x^-4s(x)", "x^4c(x)+xc(3x)+c(2x)+x^-3c(3x)+x^-4c(x)");
        Check.gather(desk, 1, 7, "x^4s(x)+xs(3x)+s(2x)+x^-3s(3x)+x^-4s(x)", "-x^4c(x)-xc(3x)-c(2x)-x^-3c(3x)-x^-4c(x)");
        Check.equal("ten and ten", desk.terms(0) * desk.terms(1), 100);
        int count = desk.times(2, 0, 1);
        Check.equal("few are left", count, desk.terms(2));
        Check.equal("15 pairs", count, 15);
        for (int i = 0; i < count; i++) {
            Check.equal("each a cosine", desk.term(2, i, 2), 4L);
        }
    }

    /** The derivative of what was integrated from x^4 with six waves, beside twenty terms that stay. */
    private static void derived() {
        AntiDesk desk = new AntiDesk();
        for (String wave : WAVES) {
            Check.gather(desk, 0, 7, each("x^4F", wave));
        }
        Check.equal("no rest", desk.integrate(1, 2, 0), 0);
        Check.equal("thirty", desk.terms(1), 30);
        for (String function : new String[] {"e(x)", "e(2x)"}) {
            Check.gather(desk, 1, 7, each("x^9F+x^7F+x^5F+x^3F+x^-3F", function));
        }
        Check.equal("forty", desk.terms(1), 40);
        Check.equal("derived", desk.derive(3, 1), 26);
        Check.equal("has 26", desk.terms(3), 26);
    }

    /** Integrals of sines that those of cosines take back, beside twenty terms that stay. */
    private static void integrated() {
        AntiDesk desk = new AntiDesk();
        for (String function : WAVES) {
            Check.gather(desk, 0, 7, each("x^4F", function));
        }
        desk.derive(1, 0);
        for (String function : EXPS) {
            Check.gather(desk, 1, 7, each("x^4F", function));
        }
        Check.equal("integrated", desk.integrate(2, 3, 1), 0);
        Check.equal("26 are left", desk.terms(2), 26);
        for (String function : EXPS) {
            Check.gather(desk, 1, 7, each("4x^3F", function));
        }
        Check.equal("still no rest", desk.integrate(2, 3, 1), 0);
        desk.derive(4, 2);
        Check.equal("back again", desk.same(4, 1), true);
    }

    /** 12,000,000,000 x exp(x) comes from the first, and the second brings it back to 7,000,000,000. */
    private static void boundsDerived() {
        AntiDesk desk = new AntiDesk();
        Check.grow(desk, 0, 7, "x^2e(x)", 6_000_000_000L);
        Check.grow(desk, 1, 7, "-xe(x)", 5_000_000_000L);
        Check.equal("twelve alone", desk.derive(3, 0), AntiDesk.FULL);
        desk.add(2, 0, 1, 1, 1);
        Check.equal("seven", desk.derive(3, 2), 3);
        Check.isTerm(desk, 3, 0, 6_000_000_000L, 1, 2, 1, 2);
        Check.isTerm(desk, 3, 1, 7_000_000_000L, 1, 2, 1, 1);
        Check.isTerm(desk, 3, 2, -5_000_000_000L, 1, 2, 1, 0);
    }
}
