/** Promises 4 and 5: read and place. */
public final class ReadTest {
    public static void main(String[] args) {
        sums();
        equalTerms();
        signs();
        ranges();
        firstFromTheLeft();
        beyondBounds();
        keepsTheSlot();
        places();
        wrongSlots();
        Check.finish();
    }

    private static void sums() {
        Check.reads("5", "5");
        Check.reads("-x", "-x");
        Check.reads("- 3 / 4 x ^ - 2 l ^ 2 ", "-3/4x^-2l^2");
        Check.reads("007/014x^-012", "1/2x^-12");
        Check.reads("x^12+x^-12", "x^12+x^-12");
        Check.reads("l^9-l", "-l+l^9");
        Check.reads("e(-9x)+e(9x)", "e(-9x)+e(9x)");
        Check.reads("s(-9x)+c(-9x)", "-s(9x)+c(9x)");
        Check.reads("s(-x)+c(-x)+e(-x)", "e(-x)-s(x)+c(x)");
        Check.reads("  2 e ( - 3 x )", "2e(-3x)");
        Check.reads("999/998", "999/998");
        Check.reads("0", "0");
        Check.reads("0/5x^3s(2x)", "0");
        Check.reads("x^0", "1");
        Check.reads("x^-0", "1");
        Check.reads("2e(0x)", "2");
        Check.reads("2e(-0x)", "2");
        Check.reads("2xs(0x)", "0");
        Check.reads("2xc(0x)", "2x");
        Check.reads("2xc(-0x)", "2x");
        Check.reads("2xl^0", "2x");
        Check.reads("s(00x)+s(001x)", "s(x)");
    }

    private static void equalTerms() {
        Check.reads("x+x", "2x");
        Check.reads("1/2+1/3", "5/6");
        Check.reads("x-x", "0");
        Check.reads("x-x+x", "x");
        Check.reads("s(2x)+s(-2x)", "0");
        Check.reads("c(2x)+c(-2x)", "2c(2x)");
        Check.reads("1+e(0x)+c(0x)+l^0+x^0", "5");
        Check.reads("xl+x^2l+xe(x)+x^2e(x)", "x^2l+xl+x^2e(x)+xe(x)");
    }

    private static void signs() {
        Check.refuses("", AntiDesk.SIGN, 0);
        Check.refuses("   ", AntiDesk.SIGN, 3);
        Check.refuses("-", AntiDesk.SIGN, 1);
        Check.refuses("+x", AntiDesk.SIGN, 0);
        Check.refuses("--x", AntiDesk.SIGN, 1);
        Check.refuses("x+-x", AntiDesk.SIGN, 2);
        Check.refuses("x+ ", AntiDesk.SIGN, 3);
        Check.refuses(" x  y", AntiDesk.SIGN, 4);
        Check.refuses("\tx", AntiDesk.SIGN, 0);
        Check.refuses("X", AntiDesk.SIGN, 0);
        Check.refuses("x\u0001", AntiDesk.SIGN, 1);
        Check.refuses("x\u00a0", AntiDesk.SIGN, 1);
        Check.refuses("x^+2", AntiDesk.SIGN, 2);
        Check.refuses("x^--2", AntiDesk.SIGN, 3);
        Check.refuses("x^- ", AntiDesk.SIGN, 4);
        Check.refuses("l^-1", AntiDesk.SIGN, 2);
        Check.refuses("lx", AntiDesk.SIGN, 1);
        Check.refuses("2l3", AntiDesk.SIGN, 2);
        Check.refuses("1/-2", AntiDesk.SIGN, 2);
        Check.refuses("/2", AntiDesk.SIGN, 0);
        Check.refuses("1/2/3", AntiDesk.SIGN, 3);
        Check.refuses("2 3", AntiDesk.SIGN, 2);
        Check.refuses("1/2 3", AntiDesk.SIGN, 4);
        Check.refuses("x^1 2", AntiDesk.SIGN, 4);
        Check.refuses("e(1 2x)", AntiDesk.SIGN, 4);
        Check.refuses("1234", AntiDesk.SIGN, 3);
        Check.refuses("1/1234", AntiDesk.SIGN, 5);
        Check.refuses("x^0012", AntiDesk.SIGN, 5);
        Check.refuses("ex", AntiDesk.SIGN, 1);
        Check.refuses("e()", AntiDesk.SIGN, 2);
        Check.refuses("s(2)", AntiDesk.SIGN, 3);
        Check.refuses("c(x^2)", AntiDesk.SIGN, 3);
        Check.refuses("c(+x)", AntiDesk.SIGN, 2);
        Check.refuses("c(--x)", AntiDesk.SIGN, 3);
        Check.refuses("e(x", AntiDesk.SIGN, 3);
        Check.refuses("e(x)l", AntiDesk.SIGN, 4);
        Check.refuses("e(x)2", AntiDesk.SIGN, 4);
        Check.refuses("e(x)x", AntiDesk.SIGN, 4);
        Check.refuses("x*x", AntiDesk.SIGN, 1);
    }

    private static void ranges() {
        Check.refuses("1/0", AntiDesk.RANGE, 2);
        Check.refuses("1/ 000x", AntiDesk.RANGE, 3);
        Check.refuses("0/0", AntiDesk.RANGE, 2);
        Check.refuses("x^13", AntiDesk.RANGE, 2);
        Check.refuses("x^-13", AntiDesk.RANGE, 3);
        Check.refuses("x ^ - 999", AntiDesk.RANGE, 6);
        Check.refuses("0x^13", AntiDesk.RANGE, 3);
        Check.refuses("l^10", AntiDesk.RANGE, 2);
        Check.refuses("e(10x)", AntiDesk.RANGE, 2);
        Check.refuses("e(-10x)", AntiDesk.RANGE, 3);
        Check.refuses("0s(10x)", AntiDesk.RANGE, 3);
        Check.refuses("1+c( 010x)", AntiDesk.RANGE, 5);
    }

    private static void firstFromTheLeft() {
        Check.refuses("x^13y", AntiDesk.RANGE, 2);
        Check.refuses("xy^13", AntiDesk.SIGN, 1);
        Check.refuses("1/0+x^13", AntiDesk.RANGE, 2);
        Check.refuses("e(10", AntiDesk.RANGE, 2);
        Check.refuses("x^1234", AntiDesk.RANGE, 2);
        Check.refuses("1/0004", AntiDesk.RANGE, 2);
        Check.refuses("1/997+1/991+", AntiDesk.SIGN, 12);
        Check.refuses("1/997+1/991+x^13", AntiDesk.RANGE, 14);
    }

    private static void beyondBounds() {
        Check.refuses("1/997+1/991", AntiDesk.FULL, AntiDesk.NONE);
        Check.refuses("1/997+x+1/991-1/991", AntiDesk.FULL, AntiDesk.NONE);
        Check.reads("1/997-1/997+1/991", "1/991");
        Check.reads("1/250+1/400", "13/2000");
        Check.reads("1/625+1/160", "157/20000");
        Check.reads("1/800+1/625", "57/20000");
        Check.reads("1/625+1/32+1/160", "391/10000");
        Check.reads("1/625+3/32", "1907/20000");
        Check.reads("1/315-1/317", "2/99855");
        Check.refuses("1/316-1/317", AntiDesk.FULL, AntiDesk.NONE);
    }

    private static void keepsTheSlot() {
        AntiDesk desk = Check.desk("1", "2");
        Check.read(desk, 1, "3x");
        Check.equal("slot 0", Check.written(desk, 0), "1");
        Check.equal("slot 1", Check.written(desk, 1), "3x");
        Check.equal("the line stays", desk.read(0), 1);
        Check.equal("and is read again", desk.same(0, 1), true);
    }

    private static void places() {
        AntiDesk desk = new AntiDesk();
        Check.read(desk, 0, "1+ y");
        Check.equal("SIGN's place", desk.place(), 3);
        Check.equal("again", desk.place(), 3);
        Check.throwsArgument("read(8)", () -> desk.read(8));
        Check.equal("what throws changes nothing", desk.place(), 3);
        desk.write(0);
        desk.derive(1, 0);
        Check.equal("nor do other calls", desk.place(), 3);
        Check.read(desk, 0, "x");
        Check.equal("none", desk.place(), AntiDesk.NONE);
        Check.read(desk, 0, "x^99");
        Check.equal("RANGE's place", desk.place(), 2);
        Check.read(desk, 0, "1/997+1/991");
        Check.equal("FULL has none", desk.place(), AntiDesk.NONE);
    }

    private static void wrongSlots() {
        for (int slot : new int[] {-1, 8, Integer.MIN_VALUE, Integer.MAX_VALUE}) {
            Check.throwsArgument("read " + slot, () -> new AntiDesk().read(slot));
        }
    }
}
