/** Promise 8: add. */
public final class AddTest {
    public static void main(String[] args) {
        sums();
        sameSlots();
        numerators();
        denominators();
        fortyTerms();
        smallness();
        wrongNumbers();
        Check.finish();
    }

    private static void adds(String a, String b, int p, int q, String due) {
        AntiDesk desk = Check.desk(a, b);
        int count = desk.add(2, 0, 1, p, q);
        String what = a + " and " + p + "/" + q + " of " + b;
        Check.equal(what, Check.written(desk, 2), due);
        Check.equal(what + ": count", count, desk.terms(2));
    }

    private static void sums() {
        adds("x", "x", 1, 1, "2x");
        adds("x", "x", -1, 1, "0");
        adds("x+l", "1/3x-e(x)", 3, 2, "3/2x+l-3/2e(x)");
        adds("x", "s(x)", 0, 5, "x");
        adds("1/997", "100/3x^4", 100, 6, "5000/9x^4+1/997");
        adds("0", "1/6", -100, 6, "-25/9");
        adds("0", "0", 100, 6, "0");
        adds("c(x)", "999x^12c(x)", 6, 6, "999x^12c(x)+c(x)");
        adds("c(x)", "999x^12c(x)", -4, 4, "-999x^12c(x)+c(x)");
    }

    private static void sameSlots() {
        AntiDesk desk = Check.desk("x+1/2");
        Check.equal("to itself", desk.add(0, 0, 0, 3, 1), 2);
        Check.equal("written", Check.written(desk, 0), "4x+2");
        Check.equal("from itself", desk.add(0, 0, 0, -1, 1), 0);
        Check.equal("gone", desk.terms(0), 0);
    }

    private static void numerators() {
        AntiDesk desk = Check.desk("0", "x^2");
        for (int bit = 33; bit >= 0; bit--) {
            desk.add(0, 0, 0, 1, 1);
            if ((10_000_000_000L >> bit & 1) == 1) {
                desk.add(0, 0, 1, 1, 1);
            }
        }
        Check.equal("the greatest", Check.written(desk, 0), "10000000000x^2");
        Check.equal("beyond", desk.add(0, 0, 1, 1, 1), AntiDesk.FULL);
        Check.equal("a little beyond", desk.add(2, 0, 1, 1, 6), AntiDesk.FULL);
        Check.equal("nothing changes", desk.term(0, 0, 0), 10_000_000_000L);
        Check.equal("nothing comes", desk.terms(2), 0);
        Check.equal("the least", desk.add(3, 2, 0, -1, 1), 1);
        Check.equal("written", Check.written(desk, 3), "-10000000000x^2");
        Check.equal("beyond below", desk.add(3, 3, 1, -1, 1), AntiDesk.FULL);
        Check.equal("back", desk.add(3, 3, 0, 1, 1), 0);
    }

    private static void denominators() {
        AntiDesk desk = Check.desk("1/5x^4l^3", "1/32x^5", "1/33x^5");
        desk.integrate(3, 4, 0);
        Check.equal("3125", desk.term(3, 0, 1), 3125L);
        Check.equal("100,000 is not too much", desk.add(5, 3, 1, 1, 1), desk.terms(3));
        Check.equal("100,000", desk.term(5, 0, 1), 100_000L);
        Check.equal("103,125 is", desk.add(5, 3, 2, 1, 1), AntiDesk.FULL);
        Check.equal("nothing changes", desk.term(5, 0, 1), 100_000L);
    }

    private static void fortyTerms() {
        AntiDesk desk = new AntiDesk();
        for (int power = -12; power <= 12; power++) {
            Check.gather(desk, 0, 7, "x^" + power);
        }
        for (int power = -2; power <= 12; power++) {
            Check.gather(desk, 0, 7, "x^" + power + "l");
        }
        Check.equal("forty", desk.terms(0), 40);
        Check.read(desk, 1, "s(x)");
        Check.equal("one more", desk.add(0, 0, 1, 1, 1), AntiDesk.FULL);
        Check.equal("still forty", desk.terms(0), 40);
        Check.equal("no s(x)", desk.term(0, 39, 2), 1L);
        Check.read(desk, 1, "s(x)-x^12");
        Check.equal("one for one", desk.add(0, 0, 1, 1, 1), 40);
        Check.equal("s(x)", desk.term(0, 39, 2), 3L);
    }

    private static void notSmall(String sum) {
        AntiDesk desk = Check.desk("x", sum);
        Check.throwsState(sum, () -> desk.add(0, 0, 1, 2, 1));
        Check.throwsState(sum + " by 0", () -> desk.add(0, 0, 1, 0, 1));
        Check.equal(sum + ": nothing changes", Check.written(desk, 0), "x");
        Check.equal(sum + " as it is", desk.add(2, 3, 1, 5, 5), desk.terms(1));
        Check.equal(sum + ": the first may be any", desk.add(2, 1, 0, 2, 1) > 0, true);
    }

    private static void smallness() {
        notSmall("101");
        notSmall("-101");
        notSmall("1/7");
        notSmall("x^5");
        notSmall("x^-5");
        notSmall("l^4");
        notSmall("e(4x)");
        notSmall("e(-4x)");
        notSmall("s(4x)");
        notSmall("c(4x)");
        notSmall("1+x+c(4x)");
        adds("0", "100/3x^4l^3-100x^-4e(-3x)+1/6e(3x)+s(3x)+c(3x)", 3, 1,
                "100x^4l^3-300x^-4e(-3x)+1/2e(3x)+3s(3x)+3c(3x)");
    }

    private static void wrongNumbers() {
        AntiDesk desk = Check.desk("x", "101");
        for (int slot : new int[] {-1, 8, Integer.MIN_VALUE, Integer.MAX_VALUE}) {
            Check.throwsArgument("to " + slot, () -> desk.add(slot, 0, 0, 1, 1));
            Check.throwsArgument("a " + slot, () -> desk.add(0, slot, 0, 1, 1));
            Check.throwsArgument("b " + slot, () -> desk.add(0, 0, slot, 1, 1));
        }
        Check.throwsArgument("p 101", () -> desk.add(0, 0, 0, 101, 1));
        Check.throwsArgument("p -101", () -> desk.add(0, 0, 0, -101, 1));
        Check.throwsArgument("p least", () -> desk.add(0, 0, 0, Integer.MIN_VALUE, 1));
        Check.throwsArgument("q 0", () -> desk.add(0, 0, 0, 1, 0));
        Check.throwsArgument("q 7", () -> desk.add(0, 0, 0, 1, 7));
        Check.throwsArgument("q -1", () -> desk.add(0, 0, 0, 1, -1));
        Check.throwsArgument("first, not small", () -> desk.add(8, 0, 1, 2, 1));
        Check.throwsArgument("p, not small", () -> desk.add(0, 0, 1, 101, 1));
        Check.equal("nothing changes", Check.written(desk, 0), "x");
    }
}
