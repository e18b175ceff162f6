/** Promises 2 and 3: type and erase. */
public final class LineTest {
    public static void main(String[] args) {
        order();
        zeroBytes();
        oddBytes();
        limit();
        erase();
        Check.finish();
    }

    private static void order() {
        AntiDesk desk = new AntiDesk();
        int count = desk.type(Check.word("12x^", 0), Check.word("3+2x", 0), Check.word("^2+x", 0),
                Check.word("+5/7", 0), Check.word("-e(x", 0));
        Check.equal("twenty characters", count, 20);
        Check.equal("one more", desk.type(')' << 24, 0, 0, 0, 0), 21);
        Check.equal("read", desk.read(0), 5);
        Check.equal("written", Check.written(desk, 0), "12x^3+2x^2+x+5/7-e(x)");
    }

    private static void zeroBytes() {
        AntiDesk desk = new AntiDesk();
        Check.equal("no characters", desk.type(0, 0, 0, 0, 0), 0);
        Check.equal("gaps", desk.type('1', '/' << 8, '2' << 16, 0, 'x' << 24), 4);
        Check.equal("gaps in one number", desk.type('+' << 24 | '3', 0, 0, 0, 0), 6);
        Check.equal("read", desk.read(0), 2);
        Check.equal("written", Check.written(desk, 0), "1/2x+3");
    }

    // Bytes above 127 make a number below 0; they are characters like others.
    private static void oddBytes() {
        AntiDesk desk = new AntiDesk();
        Check.equal("high bytes", desk.type(-1, 0x80000000, 0, 0, 0x00ff0080), 7);
        Check.equal("read", desk.read(0), AntiDesk.SIGN);
        Check.equal("place", desk.place(), 0);
        Check.equal("bytes 1", desk.type(0x01010101, 1, 1 << 8, 1 << 16, 1 << 24), 15);
    }

    private static void limit() {
        AntiDesk desk = new AntiDesk();
        Check.type(desk, "1".repeat(81));
        int blanks = Check.word("    ", 0);
        Check.throwsState("101", () -> desk.type(blanks, blanks, blanks, blanks, blanks));
        Check.equal("nothing changed", desk.type(0, 0, 0, 0, 0), 81);
        Check.equal("100", desk.type(blanks, blanks, blanks, blanks, blanks >>> 8), 100);
        Check.equal("none more", desk.type(0, 0, 0, 0, 0), 100);
        Check.throwsState("one more", () -> desk.type(0, 0, 0, 0, 'x'));
        Check.throwsState("one more, a byte 1", () -> desk.type(1, 0, 0, 0, 0));
        Check.equal("erase", desk.erase(), 100);
    }

    private static void erase() {
        AntiDesk desk = new AntiDesk();
        Check.type(desk, "x^y");
        Check.equal("read", desk.read(0), AntiDesk.SIGN);
        Check.equal("erase", desk.erase(), 3);
        Check.equal("erase again", desk.erase(), 0);
        Check.equal("the place is still the last read's", desk.place(), 2);
        Check.type(desk, "5");
        Check.equal("only the new line", desk.read(0), 1);
        Check.equal("written", Check.written(desk, 0), "5");
    }
}
