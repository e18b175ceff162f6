/** Promises 6 and 7: write and output. */
public final class WriteTest {
    public static void main(String[] args) {
        forms();
        order();
        lengths();
        outputStays();
        wrongSlots();
        Check.finish();
    }

    private static void writes(String line, String due) {
        Check.equal(line, Check.written(Check.desk(line), 0), due);
    }

    private static void forms() {
        writes("0", "0");
        writes("1", "1");
        writes("-1", "-1");
        writes("1/3", "1/3");
        writes("-2/6", "-1/3");
        writes("1x", "x");
        writes("-1x^1", "-x");
        writes("1/2x", "1/2x");
        writes("3x^2", "3x^2");
        writes("x^-1", "x^-1");
        writes("10x^10", "10x^10");
        writes("1l", "l");
        writes("-l^2", "-l^2");
        writes("100x^-12l^9", "100x^-12l^9");
        writes("e(1x)", "e(x)");
        writes("e(-1x)", "e(-x)");
        writes("e(2x)", "e(2x)");
        writes("e(-9x)", "e(-9x)");
        writes("2s(x)", "2s(x)");
        writes("-1/2xs(3x)", "-1/2xs(3x)");
        writes("c(x)", "c(x)");
        writes("-2x^2c(9x)", "-2x^2c(9x)");
    }

    private static void order() {
        writes("c(2x)+c(x)+s(2x)+s(x)+e(x)+e(-x)+l^2+l+1", "1+l+l^2+e(-x)+e(x)+s(x)+s(2x)+c(x)+c(2x)");
        writes("x^-2+1+x^2+x+x^-1", "x^2+x+1+x^-1+x^-2");
        writes("xl^2+x^2l^2+x^3l", "x^3l+x^2l^2+xl^2");
        writes("-e(9x)-e(-9x)-x^-1e(-9x)-xe(-9x)", "-xe(-9x)-e(-9x)-x^-1e(-9x)-e(9x)");
        writes("c(x)-s(9x)+x^12s(9x)", "x^12s(9x)-s(9x)+c(x)");
    }

    private static void lengths() {
        AntiDesk desk = Check.desk("x^2-1/2");
        Check.equal("length", desk.write(0), 7);
        Check.equal("first", desk.output(0), 'x');
        Check.equal("last", desk.output(6), '2');
        for (int k : new int[] {-1, 7, 8, 2000, Integer.MAX_VALUE, Integer.MIN_VALUE}) {
            Check.equal("output " + k, desk.output(k), ' ');
        }
        Check.equal("a shorter one", desk.write(1), 1);
        Check.equal("its end", desk.output(1), ' ');
        Check.equal("its start", desk.output(0), '0');
    }

    private static void outputStays() {
        AntiDesk desk = Check.desk("x^2", "5");
        desk.write(0);
        Check.throwsArgument("write(8)", () -> desk.write(8));
        desk.add(0, 0, 1, 1, 1);
        desk.erase();
        Check.equal("length kept", "" + desk.output(0) + desk.output(1) + desk.output(2) + desk.output(3), "x^2 ");
    }

    private static void wrongSlots() {
        for (int slot : new int[] {-1, 8, Integer.MIN_VALUE, Integer.MAX_VALUE}) {
            Check.throwsArgument("write " + slot, () -> new AntiDesk().write(slot));
        }
    }
}
