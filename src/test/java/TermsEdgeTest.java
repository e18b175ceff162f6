/** "Terms": what a sum may have, the last value that is in and the first that is out. */
public final class TermsEdgeTest {
    private static final long TEN_TO_THE_TEN = 10_000_000_000L;

    public static void main(String[] args) {
        Check.sentence("a rational number that is not 0", TermsEdgeTest::notZero);
        Check.sentence("in lowest terms", TermsEdgeTest::lowestTerms);
        Check.sentence("the denominator above 0", TermsEdgeTest::denominatorAbove);
        Check.sentence("x to a POWER -12 .. 12", TermsEdgeTest::powers);
        Check.sentence("log(x) to the k (1), k = 1 .. 9", TermsEdgeTest::logs);
        Check.sentence("exp(n x) (2), n = -9 .. 9, not 0", TermsEdgeTest::exps);
        Check.sentence("sin(n x) (3), cos(n x) (4), n = 1 .. 9", TermsEdgeTest::waves);
        Check.sentence("No two TERMS of a SUM have the same POWER and FUNCTION", TermsEdgeTest::noTwo);
        Check.sentence("at most 40 TERMS", TermsEdgeTest::fortyAdded);
        Check.sentence("at most 40 TERMS", TermsEdgeTest::fortyMultiplied);
        Check.sentence("at most 40 TERMS", TermsEdgeTest::fortyDerived);
        Check.sentence("at most 40 TERMS", TermsEdgeTest::fortyIntegrated);
        Check.sentence("SLOTS 0 .. 7", TermsEdgeTest::slots);
        Check.sentence("of no TERMS at first", TermsEdgeTest::emptySlots);
        Check.sentence("a numerator is at most 10^10 in size", TermsEdgeTest::numeratorsAdded);
        Check.sentence("a numerator is at most 10^10 in size", TermsEdgeTest::numeratorsDerived);
        Check.sentence("a denominator at most 100,000", TermsEdgeTest::denominatorsRead);
        Check.sentence("a denominator at most 100,000", TermsEdgeTest::denominatorsAdded);
        Check.sentence("a denominator at most 100,000", TermsEdgeTest::denominatorsDerived);
        Check.sentence("numerators are at most 100 in size", TermsEdgeTest::smallNumerators);
        Check.sentence("denominators at most 6", TermsEdgeTest::smallDenominators);
        Check.sentence("POWERS -4 .. 4", TermsEdgeTest::smallPowers);
        Check.sentence("k at most 3", TermsEdgeTest::smallLogs);
        Check.sentence("n -3 .. 3", TermsEdgeTest::smallMultiples);
        Check.sentence("A SUM is SMALL if", TermsEdgeTest::smallInEveryTerm);
        Check.finish();
    }

    private static void notZero() {
        Check.equal("0 read", Check.read(new AntiDesk(), 0, "0"), 0);
        Check.equal("0/5 read", Check.read(new AntiDesk(), 0, "0/5x^2l"), 0);
        Check.equal("-0 read", Check.read(new AntiDesk(), 0, "-0x"), 0);
        AntiDesk desk = Check.desk("x+1", "x", "s(x)", "c(x)");
        Check.equal("x + 1 less x", desk.add(4, 0, 1, -1, 1), 1);
        Check.equal("0 times x added", desk.add(5, 6, 1, 0, 1), 0);
        desk.times(4, 2, 2);
        desk.times(5, 3, 3);
        Check.equal("two squares", desk.add(4, 4, 5, 1, 1), 1);
        Check.equal("x + 1 derived", desk.derive(4, 0), 1);
        Check.equal("1 derived", desk.derive(4, 4), 0);
        Check.read(desk, 0, "x^-1e(x)-x^-2e(x)");
        Check.equal("a rest that goes", desk.integrate(4, 5, 0), 0);
    }

    private static void lowestTerms() {
        AntiDesk desk = Check.desk("6/4x", "999/999", "1/6", "2/3x", "1/4x^2", "6x^2");
        Check.isTerm(desk, 0, 0, 3, 2, 0, 0, 1);
        Check.isTerm(desk, 1, 0, 1, 1, 0, 0, 0);
        desk.add(7, 2, 2, 2, 1);
        Check.isTerm(desk, 7, 0, 1, 2, 0, 0, 0);
        desk.times(7, 0, 3);
        Check.isTerm(desk, 7, 0, 1, 1, 0, 0, 2);
        desk.derive(7, 4);
        Check.isTerm(desk, 7, 0, 1, 2, 0, 0, 1);
        desk.integrate(7, 6, 5);
        Check.isTerm(desk, 7, 0, 2, 1, 0, 0, 3);
        Check.read(desk, 0, "4x^-3e(x)");
        desk.integrate(6, 7, 0);
        Check.isTerm(desk, 6, 0, -2, 1, 2, 1, -1);
        Check.isTerm(desk, 7, 0, 2, 1, 2, 1, -1);
    }

    private static void denominatorAbove() {
        AntiDesk desk = Check.desk("x^-4", "-x^-4", "e(-3x)", "-e(-3x)", "s(3x)", "-1/2");
        Check.isTerm(desk, 5, 0, -1, 2, 0, 0, 0);
        desk.integrate(7, 6, 0);
        Check.isTerm(desk, 7, 0, -1, 3, 0, 0, -3);
        desk.integrate(7, 6, 1);
        Check.isTerm(desk, 7, 0, 1, 3, 0, 0, -3);
        desk.integrate(7, 6, 2);
        Check.isTerm(desk, 7, 0, -1, 3, 2, -3, 0);
        desk.integrate(7, 6, 3);
        Check.isTerm(desk, 7, 0, 1, 3, 2, -3, 0);
        desk.integrate(7, 6, 4);
        Check.isTerm(desk, 7, 0, -1, 3, 4, 3, 0);
        desk.add(7, 6, 5, -1, 3);
        Check.isTerm(desk, 7, 0, 1, 6, 0, 0, 0);
        Check.read(desk, 0, "x^-3s(x)");
        desk.integrate(7, 6, 0);
        Check.isTerm(desk, 6, 0, -1, 2, 3, 1, -1);
    }

    private static void powers() {
        for (String function : new String[] {"", "l^2", "e(2x)", "s(2x)", "c(2x)"}) {
            Check.reads("x^12" + function, "x^12" + function);
            Check.reads("x^-12" + function, "x^-12" + function);
            Check.refuses("x^13" + function, AntiDesk.RANGE, 2);
            Check.refuses("x^-13" + function, AntiDesk.RANGE, 3);
            AntiDesk desk = Check.desk("x^-11" + function, "x^-12" + function, "x^12" + function);
            Check.equal("-12 in, " + function, desk.derive(3, 0) > 0, true);
            Check.equal("its power, " + function, leastPower(desk, 3), -12L);
            Check.equal("-13 out, " + function, desk.derive(4, 1), AntiDesk.FULL);
            Check.equal("nothing comes, " + function, desk.terms(4), 0);
            Check.equal("12 derived, " + function, desk.derive(4, 2) > 0, true);
        }
    }

    private static long leastPower(AntiDesk desk, int slot) {
        long least = 99;
        for (int i = 0; i < desk.terms(slot); i++) {
            least = Math.min(least, desk.term(slot, i, 4));
        }
        return least;
    }

    private static void logs() {
        AntiDesk desk = Check.desk("l", "l^9", "l^2", "x^-1", "l^3");
        Check.isTerm(desk, 0, 0, 1, 1, 1, 1, 0);
        Check.isTerm(desk, 1, 0, 1, 1, 1, 9, 0);
        Check.refuses("l^10", AntiDesk.RANGE, 2);
        desk.derive(5, 2);
        Check.isTerm(desk, 5, 0, 2, 1, 1, 1, -1);
        desk.derive(5, 0);
        Check.isTerm(desk, 5, 0, 1, 1, 0, 0, -1);
        desk.derive(5, 1);
        Check.isTerm(desk, 5, 0, 9, 1, 1, 8, -1);
        desk.integrate(5, 6, 3);
        Check.isTerm(desk, 5, 0, 1, 1, 1, 1, 0);
        desk.times(5, 4, 4);
        Check.isTerm(desk, 5, 0, 1, 1, 1, 6, 0);
    }

    private static void exps() {
        AntiDesk desk = Check.desk("e(9x)", "e(-9x)", "2xe(0x)", "e(x)", "e(-x)");
        Check.isTerm(desk, 0, 0, 1, 1, 2, 9, 0);
        Check.isTerm(desk, 1, 0, 1, 1, 2, -9, 0);
        Check.isTerm(desk, 2, 0, 2, 1, 0, 0, 1);
        Check.isTerm(desk, 3, 0, 1, 1, 2, 1, 0);
        Check.isTerm(desk, 4, 0, 1, 1, 2, -1, 0);
        Check.refuses("e(10x)", AntiDesk.RANGE, 2);
        Check.refuses("e(-10x)", AntiDesk.RANGE, 3);
        desk.times(5, 3, 4);
        Check.isTerm(desk, 5, 0, 1, 1, 0, 0, 0);
    }

    private static void waves() {
        AntiDesk desk = Check.desk("s(x)", "s(9x)", "c(x)", "c(9x)", "s(2x)", "c(2x)");
        Check.isTerm(desk, 0, 0, 1, 1, 3, 1, 0);
        Check.isTerm(desk, 1, 0, 1, 1, 3, 9, 0);
        Check.isTerm(desk, 2, 0, 1, 1, 4, 1, 0);
        Check.isTerm(desk, 3, 0, 1, 1, 4, 9, 0);
        Check.refuses("s(10x)", AntiDesk.RANGE, 2);
        Check.refuses("s(-10x)", AntiDesk.RANGE, 3);
        Check.refuses("c(10x)", AntiDesk.RANGE, 2);
        Check.refuses("c(-10x)", AntiDesk.RANGE, 3);
        desk.times(6, 4, 5);
        Check.equal("no sin(0 x)", Check.written(desk, 6), "1/2s(4x)");
        desk.times(6, 5, 5);
        Check.equal("no cos(0 x)", Check.written(desk, 6), "1/2+1/2c(4x)");
        desk.times(6, 0, 4);
        Check.equal("no cos(-x)", Check.written(desk, 6), "1/2c(x)-1/2c(3x)");
        desk.times(6, 0, 5);
        Check.equal("no sin(-x)", Check.written(desk, 6), "-1/2s(x)+1/2s(3x)");
    }

    private static void noTwo() {
        Check.reads("x+x+1+1", "2x+2");
        Check.reads("x+xl+xe(x)+xs(x)+xc(x)", "x+xl+xe(x)+xs(x)+xc(x)");
        Check.reads("l+l^2+xl+e(x)+e(-x)+xe(x)", "xl+l+l^2+e(-x)+xe(x)+e(x)");
        AntiDesk desk = Check.desk("x+1", "x^2e(x)+xe(x)", "x^-2s(x)+x^-1c(x)");
        desk.add(7, 0, 0, 1, 1);
        Check.equal("added", Check.written(desk, 7), "2x+2");
        desk.times(7, 0, 0);
        Check.equal("multiplied", Check.written(desk, 7), "x^2+2x+1");
        desk.derive(7, 1);
        Check.equal("derived", Check.written(desk, 7), "x^2e(x)+3xe(x)+e(x)");
        desk.integrate(7, 6, 1);
        Check.equal("integrated", Check.written(desk, 7), "x^2e(x)-xe(x)+e(x)");
        Check.equal("a rest of two", desk.integrate(7, 6, 2), 1);
        Check.equal("as one", Check.written(desk, 6), "2x^-1c(x)");
    }

    /** Powers 12 .. -12 alone, and with l those down to a last one. */
    private static void gatherPowers(AntiDesk desk, int slot, int last) {
        StringBuilder line = new StringBuilder();
        for (int i = 0; i < 25 + 13 - last; i++) {
            line.append(line.length() == 0 ? "x^" : "+x^").append(12 - i % 25).append(i < 25 ? "" : "l");
            if (i % 12 == 11 || i == 37 - last) {
                Check.gather(desk, slot, 7, line.toString());
                line.setLength(0);
            }
        }
    }

    private static void fortyAdded() {
        AntiDesk desk = new AntiDesk();
        gatherPowers(desk, 0, -1);
        Check.equal("39", desk.terms(0), 39);
        Check.read(desk, 1, "c(x)");
        Check.read(desk, 2, "c(x)+c(2x)");
        Check.equal("two more", desk.add(3, 0, 2, 1, 1), AntiDesk.FULL);
        Check.equal("one more", desk.add(3, 0, 1, 1, 1), 40);
        Check.equal("40", desk.terms(3), 40);
        Check.equal("the last", desk.term(3, 39, 2), 4L);
        Check.read(desk, 1, "e(x)");
        Check.equal("41", desk.add(3, 3, 1, 1, 1), AntiDesk.FULL);
        Check.equal("the other way", desk.add(3, 1, 3, 1, 1), AntiDesk.FULL);
        Check.equal("still 40", desk.terms(3), 40);
        Check.equal("none of it", desk.term(3, 39, 2), 4L);
        Check.read(desk, 1, "e(x)-x");
        Check.equal("40 again", desk.add(3, 3, 1, 1, 1), 40);
        Check.read(desk, 1, "x^12+c(x)");
        Check.equal("40 that are there", desk.add(3, 3, 1, 1, 1), 40);
    }

    // Nine powers with each of l^0 .. l^3 are 36, four higher ones come, and then one with l.
    private static void fortyMultiplied() {
        String nine = "x^4+x^3+x^2+x+1+x^-1+x^-2+x^-3+x^-4";
        AntiDesk desk = Check.desk(nine, "1+l+l^2+l^3+x^4", "1+l+l^2+l^3+x^4+xl", "7");
        Check.equal("41", desk.times(3, 0, 2), AntiDesk.FULL);
        Check.equal("nothing changes", Check.written(desk, 3), "7");
        Check.equal("40", desk.times(3, 0, 1), 40);
        Check.equal("has 40", desk.terms(3), 40);
        Check.equal("41, the other way", desk.times(3, 2, 0), AntiDesk.FULL);
        Check.equal("still 40", desk.terms(3), 40);
    }

    // Every second power, so that no two derivatives have the same.
    private static void fortyDerived() {
        AntiDesk desk = Check.desk("0", "7", "x^2");
        for (String function : new String[] {"e(-x)", "e(x)", "e(2x)", "e(3x)"}) {
            Check.gather(desk, 0, 7, "x^11F+x^9F+x^7F+x^5F+x^3F".replace("F", function));
        }
        Check.equal("20", desk.terms(0), 20);
        Check.equal("40", desk.derive(3, 0), 40);
        Check.equal("has 40", desk.terms(3), 40);
        desk.add(0, 0, 2, 1, 1);
        Check.equal("41", desk.derive(1, 0), AntiDesk.FULL);
        Check.equal("nothing changes", Check.written(desk, 1), "7");
        Check.equal("41 into itself", desk.derive(0, 0), AntiDesk.FULL);
        Check.equal("still 21", desk.terms(0), 21);
    }

    private static void fortyIntegrated() {
        AntiDesk desk = Check.desk("0", "7", "x^2", "l^0");
        for (String sign : new String[] {"", "-"}) {
            Check.gather(desk, 0, 7, "x^4e(Nx)+x^4e(N2x)+x^4e(N3x)".replace("N", sign));
        }
        Check.gather(desk, 0, 7, "x^4c(x)+x^4s(2x)");
        Check.equal("40", desk.integrate(4, 5, 0), 0);
        Check.equal("has 40", desk.terms(4), 40);
        desk.add(0, 0, 3, 1, 1);
        Check.equal("41", desk.integrate(1, 2, 0), AntiDesk.FULL);
        Check.equal("nothing changes", Check.written(desk, 1), "7");
        Check.equal("nor in the rest", Check.written(desk, 2), "x^2");
        Check.read(desk, 3, "x^-1e(x)-l^0");
        desk.add(0, 0, 3, 1, 1);
        Check.equal("40 and a rest", desk.integrate(1, 2, 0), 1);
        Check.equal("has 40 again", desk.terms(1), 40);
    }

    private static void slots() {
        for (int slot : new int[] {0, 7}) {
            Check.equal("read " + slot, Check.read(new AntiDesk(), slot, "x"), 1);
            Check.equal("all calls with " + slot, Check.thrownBy(() -> useAlone(slot)), "nothing");
        }
        for (int slot : new int[] {-1, 8, 255, Integer.MIN_VALUE, Integer.MAX_VALUE}) {
            AntiDesk desk = Check.desk("x");
            Check.throwsArgument("read " + slot, () -> desk.read(slot));
            Check.throwsArgument("write " + slot, () -> desk.write(slot));
            Check.throwsArgument("add to " + slot, () -> desk.add(slot, 0, 0, 1, 1));
            Check.throwsArgument("add a " + slot, () -> desk.add(0, slot, 0, 1, 1));
            Check.throwsArgument("add b " + slot, () -> desk.add(0, 0, slot, 1, 1));
            Check.throwsArgument("times to " + slot, () -> desk.times(slot, 0, 0));
            Check.throwsArgument("times a " + slot, () -> desk.times(0, slot, 0));
            Check.throwsArgument("times b " + slot, () -> desk.times(0, 0, slot));
            Check.throwsArgument("derive to " + slot, () -> desk.derive(slot, 0));
            Check.throwsArgument("derive a " + slot, () -> desk.derive(0, slot));
            Check.throwsArgument("integrate to " + slot, () -> desk.integrate(slot, 0, 0));
            Check.throwsArgument("integrate rest " + slot, () -> desk.integrate(0, slot, 0));
            Check.throwsArgument("integrate a " + slot, () -> desk.integrate(0, 0, slot));
            Check.throwsArgument("same a " + slot, () -> desk.same(slot, 0));
            Check.throwsArgument("same b " + slot, () -> desk.same(0, slot));
            Check.throwsArgument("terms " + slot, () -> desk.terms(slot));
            Check.throwsArgument("term " + slot, () -> desk.term(slot, 0, 0));
            Check.equal("nothing changes", Check.written(desk, 0), "x");
        }
    }

    private static void useAlone(int slot) {
        AntiDesk desk = new AntiDesk();
        Check.read(desk, slot, "x^2");
        Check.equal("add " + slot, desk.add(slot, slot, slot, 1, 1), 1);
        Check.equal("times " + slot, desk.times(slot, slot, slot), 1);
        Check.equal("derive " + slot, desk.derive(slot, slot), 1);
        Check.equal("same " + slot, desk.same(slot, slot), true);
        Check.equal("terms " + slot, desk.terms(slot), 1);
        Check.equal("term " + slot, desk.term(slot, 0, 0), 16L);
        Check.equal("written " + slot, Check.written(desk, slot), "16x^3");
        Check.equal("integrate " + slot, desk.integrate(slot, 3, slot), 0);
        Check.equal("its slot " + slot, Check.written(desk, slot), "4x^4");
        Check.equal("integrate, rest " + slot, desk.integrate(3, slot, slot), 0);
        Check.equal("its rest " + slot, desk.terms(slot), 0);
    }

    private static void emptySlots() {
        AntiDesk desk = new AntiDesk();
        for (int slot = 0; slot < 8; slot++) {
            Check.equal("terms of " + slot, desk.terms(slot), 0);
        }
        Check.read(desk, 3, "x");
        for (int slot = 0; slot < 8; slot++) {
            Check.equal("one each, " + slot, desk.terms(slot), slot == 3 ? 1 : 0);
        }
    }

    private static void numeratorsAdded() {
        AntiDesk desk = new AntiDesk();
        Check.grow(desk, 0, 1, "xl", TEN_TO_THE_TEN - 1);
        Check.equal("10^10 in", desk.add(0, 0, 1, 1, 1), 1);
        Check.isTerm(desk, 0, 0, TEN_TO_THE_TEN, 1, 1, 1, 1);
        Check.equal("10^10 + 1 out", desk.add(0, 0, 1, 1, 1), AntiDesk.FULL);
        Check.equal("also in another slot", desk.add(2, 0, 1, 1, 1), AntiDesk.FULL);
        Check.equal("nothing comes there", desk.terms(2), 0);
        Check.isTerm(desk, 0, 0, TEN_TO_THE_TEN, 1, 1, 1, 1);
        Check.equal("-10^10 in", desk.add(2, 3, 0, -1, 1), 1);
        Check.isTerm(desk, 2, 0, -TEN_TO_THE_TEN, 1, 1, 1, 1);
        Check.equal("-10^10 - 1 out", desk.add(2, 2, 1, -1, 1), AntiDesk.FULL);
        Check.isTerm(desk, 2, 0, -TEN_TO_THE_TEN, 1, 1, 1, 1);
        Check.equal("10^10 - 1/6, over 6", desk.add(3, 0, 1, -1, 6), AntiDesk.FULL);
        Check.equal("twice 10^10", desk.add(3, 0, 0, 1, 1), AntiDesk.FULL);
        Check.equal("10^10 less 10^10", desk.add(3, 0, 0, -1, 1), 0);
        Check.equal("10^10 less 1", desk.add(3, 0, 1, -1, 1), 1);
        Check.isTerm(desk, 3, 0, TEN_TO_THE_TEN - 1, 1, 1, 1, 1);
    }

    private static void numeratorsDerived() {
        AntiDesk desk = Check.desk("0", "0", "xe(x)");
        Check.grow(desk, 0, 1, "e(x)", TEN_TO_THE_TEN - 1);
        desk.add(3, 0, 2, 1, 1);
        Check.equal("10^10 in", desk.derive(4, 3), 2);
        Check.isTerm(desk, 4, 1, TEN_TO_THE_TEN, 1, 2, 1, 0);
        desk.add(3, 3, 1, 1, 1);
        Check.equal("10^10 + 1 out", desk.derive(4, 3), AntiDesk.FULL);
        Check.isTerm(desk, 4, 1, TEN_TO_THE_TEN, 1, 2, 1, 0);
        desk.add(5, 6, 3, -1, 1);
        Check.equal("-10^10 - 1 out", desk.derive(4, 5), AntiDesk.FULL);
        desk.add(5, 5, 1, 1, 1);
        Check.equal("-10^10 in", desk.derive(4, 5), 2);
        Check.isTerm(desk, 4, 1, -TEN_TO_THE_TEN, 1, 2, 1, 0);

        AntiDesk other = new AntiDesk();
        Check.grow(other, 0, 1, "x^2", TEN_TO_THE_TEN / 2);
        Check.equal("10^10 x in", other.derive(2, 0), 1);
        Check.isTerm(other, 2, 0, TEN_TO_THE_TEN, 1, 0, 0, 1);
        other.add(0, 0, 1, 1, 1);
        Check.equal("(10^10 + 2) x out", other.derive(2, 0), AntiDesk.FULL);
    }

    // 369 * 271 is 99,999, and 177 * 565 is 100,005.
    private static void denominatorsRead() {
        Check.reads("1/369+1/271", "640/99999");
        Check.reads("-1/369x-1/271x", "-640/99999x");
        Check.refuses("1/177+1/565", AntiDesk.FULL, AntiDesk.NONE);
        Check.refuses("-1/177l-1/565l", AntiDesk.FULL, AntiDesk.NONE);
    }

    private static void denominatorsAdded() {
        AntiDesk desk = Check.desk("1/5x^4l^3", "1/32x^5", "1/177x^5", "1/565x^5");
        desk.integrate(4, 5, 0);
        Check.isTerm(desk, 4, 0, -6, 3125, 0, 0, 5);
        Check.equal("100,000 in", desk.add(6, 4, 1, 1, 1), 4);
        Check.isTerm(desk, 6, 0, 2933, 100_000, 0, 0, 5);
        Check.equal("100,005 out", desk.add(6, 2, 3, 1, 1), AntiDesk.FULL);
        Check.isTerm(desk, 6, 0, 2933, 100_000, 0, 0, 5);
    }

    private static void denominatorsDerived() {
        AntiDesk desk = Check.desk("1/369xe(x)+1/271e(x)", "1/177xe(x)+1/565e(x)");
        Check.equal("99,999 in", desk.derive(2, 0), 2);
        Check.isTerm(desk, 2, 1, 640, 99_999, 2, 1, 0);
        Check.equal("100,005 out", desk.derive(2, 1), AntiDesk.FULL);
        Check.isTerm(desk, 2, 1, 640, 99_999, 2, 1, 0);
    }

    private static void small(String sum) {
        AntiDesk desk = Check.desk(sum, "1");
        Check.equal(sum + " is small for add", Check.thrownBy(() -> desk.add(2, 1, 0, 2, 1)), "nothing");
        Check.equal(sum + " is small for times", Check.thrownBy(() -> desk.times(2, 0, 1)), "nothing");
        Check.equal(sum + " is small for times, second", Check.thrownBy(() -> desk.times(2, 1, 0)), "nothing");
        Check.equal(sum + " is small for integrate", Check.thrownBy(() -> desk.integrate(2, 3, 0)), "nothing");
    }

    private static void notSmall(String sum) {
        AntiDesk desk = Check.desk(sum, "1");
        Check.throwsState(sum + " is not small for add", () -> desk.add(2, 1, 0, 2, 1));
        Check.throwsState(sum + " is not small for times", () -> desk.times(2, 0, 1));
        Check.throwsState(sum + " is not small for times, second", () -> desk.times(2, 1, 0));
        Check.throwsState(sum + " is not small for integrate", () -> desk.integrate(2, 3, 0));
        Check.equal(sum + " may be the first of add", desk.add(2, 0, 1, 2, 1), desk.terms(2));
    }

    private static void smallNumerators() {
        small("100x");
        small("-100x");
        small("100/3x");
        small("200/2x");
        notSmall("101x");
        notSmall("-101x");
        notSmall("101/6x");
        notSmall("-101/2x");
    }

    private static void smallDenominators() {
        small("1/6x");
        small("-5/6x");
        small("2/12x");
        notSmall("1/7x");
        notSmall("-1/7x");
        notSmall("2/14x");
        notSmall("99/8x");
    }

    private static void smallPowers() {
        for (String function : new String[] {"", "l", "e(x)", "s(x)", "c(x)"}) {
            small("x^4" + function);
            small("x^-4" + function);
            notSmall("x^5" + function);
            notSmall("x^-5" + function);
        }
    }

    private static void smallLogs() {
        small("l^3");
        notSmall("l^4");
        notSmall("l^9");
    }

    private static void smallMultiples() {
        for (String function : new String[] {"e", "s", "c"}) {
            small(function + "(3x)");
            small(function + "(-3x)");
            notSmall(function + "(4x)");
            notSmall(function + "(-4x)");
        }
    }

    private static void smallInEveryTerm() {
        small("0");
        small("-100/3x^4+100x^-4+1/6x^3");
        notSmall("x^5+x+1");
        notSmall("x+1/7+x^-1");
        notSmall("x+1+l^4");
        AntiDesk desk = new AntiDesk();
        for (String function : new String[] {"", "l", "e(x)", "s(x)", "c(x)"}) {
            Check.gather(desk, 0, 7, "x^4F+x^3F+x^2F+xF+x^-1F+x^-2F+x^-3F+x^-4F".replace("F", function));
        }
        Check.equal("forty that are small", desk.terms(0), 40);
        Check.equal("added", desk.add(1, 0, 0, 2, 1), 40);
    }
}
