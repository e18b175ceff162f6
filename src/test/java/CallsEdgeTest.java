/** Promises 1 to 7: a new object, the line, reading it, and the output. */
public final class CallsEdgeTest {
    private static final int FOUR = Check.word("1111", 0);

    public static void main(String[] args) {
        Check.sentence("Empty SLOTS, an empty LINE and OUTPUT", CallsEdgeTest::newObject);

        Check.sentence("Up to twenty characters more", CallsEdgeTest::twenty);
        Check.sentence("four in each number, the highest byte first", CallsEdgeTest::highestFirst);
        Check.sentence("a byte 0 is none", CallsEdgeTest::byteNothing);
        Check.sentence("How many THE LINE has", CallsEdgeTest::howMany);
        Check.sentence("IllegalState: it would have more than 100", CallsEdgeTest::moreThanHundred);

        Check.sentence("THE LINE is empty: how many it had", CallsEdgeTest::erase);

        Check.sentence("A SLOT gets THE LINE's SUM: how many TERMS", CallsEdgeTest::readCounts);
        Check.sentence("SIGN, a character that cannot be there", CallsEdgeTest::signAtCharacter);
        Check.sentence("or its end", CallsEdgeTest::signAtEnd);
        Check.sentence("RANGE, a denominator 0", CallsEdgeTest::denominatorNothing);
        Check.sentence("or a POWER above 12", CallsEdgeTest::powerAbove);
        Check.sentence("k or n above 9", CallsEdgeTest::multipleAbove);
        Check.sentence("also in a TERM that is 0", CallsEdgeTest::rangeInNothing);
        Check.sentence("at the number's first digit", CallsEdgeTest::firstDigit);
        Check.sentence("the first of these that shows, from the left", CallsEdgeTest::firstFromTheLeft);
        Check.sentence("then FULL (place NONE)", CallsEdgeTest::thenFull);

        Check.sentence("The place of the last SIGN or RANGE, from 0 on", CallsEdgeTest::lastPlace);
        Check.sentence("in THE LINE as it was typed (blanks, too)", CallsEdgeTest::placeWithBlanks);
        Check.sentence("NONE if the last read had none", CallsEdgeTest::noPlace);
        Check.sentence("or there was none", CallsEdgeTest::noRead);

        Check.sentence("THE OUTPUT is a SLOT's SUM, WRITTEN: how many characters", CallsEdgeTest::written);
        Check.sentence("THE OUTPUT is a SLOT's SUM, WRITTEN: how many characters", CallsEdgeTest::longest);

        Check.sentence("Character k of THE OUTPUT", CallsEdgeTest::characters);
        Check.sentence("a space if there is none such", CallsEdgeTest::spaces);
        Check.finish();
    }

    private static int length(AntiDesk desk) {
        return desk.type(0, 0, 0, 0, 0);
    }

    private static void newObject() {
        AntiDesk desk = new AntiDesk();
        Check.equal("line", length(desk), 0);
        Check.equal("erased", desk.erase(), 0);
        for (int slot = 0; slot < 8; slot++) {
            Check.equal("slot " + slot, desk.terms(slot), 0);
            Check.equal("no term of " + slot, desk.term(slot, 0, 0), 0L);
            Check.equal("same as the first " + slot, desk.same(0, slot), true);
        }
        for (int k = -1; k < 40; k++) {
            Check.equal("output " + k, desk.output(k), ' ');
        }
        Check.equal("nothing to read", new AntiDesk().read(0), AntiDesk.SIGN);
    }

    private static void twenty() {
        AntiDesk desk = new AntiDesk();
        String text = "12x^3-4/5x^2l^6+7x-8";
        Check.equal("none", desk.type(0, 0, 0, 0, 0), 0);
        Check.equal("twenty", desk.type(Check.word(text, 0), Check.word(text, 4), Check.word(text, 8),
                Check.word(text, 12), Check.word(text, 16)), 20);
        Check.equal("read", desk.read(0), 4);
        Check.equal("written", Check.written(desk, 0), "12x^3+7x-8-4/5x^2l^6");
        Check.equal("one", desk.type(0, 0, 0, 0, '1'), 21);
        Check.equal("behind the others", desk.read(0), 4);
        Check.equal("-81", desk.term(0, 2, 0), -81L);
    }

    private static void highestFirst() {
        AntiDesk desk = new AntiDesk();
        desk.type(('1' << 24) + ('2' << 16) + ('3' << 8) + 'x', ('^' << 24) + ('1' << 16) + ('0' << 8) + '+',
                ('4' << 24) + ('/' << 16) + ('5' << 8), 0, 0);
        desk.read(0);
        Check.equal("written", Check.written(desk, 0), "123x^10+4/5");
        AntiDesk other = new AntiDesk();
        Check.equal("bytes above 127", other.type(0x78ffffff, 0x80808080, -1, 0, 0), 12);
        Check.equal("are characters", other.read(0), AntiDesk.SIGN);
        Check.equal("behind the x", other.place(), 1);
    }

    private static void byteNothing() {
        for (int shift = 0; shift < 32; shift += 8) {
            for (int number = 0; number < 5; number++) {
                int[] words = new int[5];
                words[number] = '7' << shift;
                AntiDesk desk = new AntiDesk();
                String what = "byte " + shift / 8 + " of number " + number;
                Check.equal(what, desk.type(words[0], words[1], words[2], words[3], words[4]), 1);
                Check.equal(what + ": read", desk.read(0), 1);
                Check.equal(what + ": 7", desk.term(0, 0, 0), 7L);
            }
        }
        AntiDesk desk = new AntiDesk();
        Check.equal("in between", desk.type(0x31003200, 0, 0x00330000, 0, 0x00000078), 4);
        Check.equal("read", desk.read(0), 1);
        Check.equal("no gaps", Check.written(desk, 0), "123x");
        Check.equal("the digit 0 is one", desk.type('0', 0, 0, 0, 0), 5);
    }

    private static void howMany() {
        AntiDesk desk = new AntiDesk();
        Check.equal("3", desk.type(Check.word("x+1", 0), 0, 0, 0, 0), 3);
        Check.equal("3 and 8", desk.type(FOUR, 0, FOUR, 0, 0), 11);
        Check.equal("blanks, too", desk.type(0x20202020, 0, 0, 0, 0), 15);
        Check.equal("none more", desk.type(0, 0, 0, 0, 0), 15);
        desk.read(0);
        Check.equal("it stays when it is read", length(desk), 15);
    }

    private static void moreThanHundred() {
        AntiDesk desk = new AntiDesk();
        for (int count = 20; count < 100; count += 20) {
            Check.equal("" + count, desk.type(FOUR, FOUR, FOUR, FOUR, FOUR), count);
        }
        Check.equal("81", desk.type(0, 0, 0, 0, '1'), 81);
        Check.throwsState("101", () -> desk.type(FOUR, FOUR, FOUR, FOUR, FOUR));
        Check.equal("still 81", length(desk), 81);
        Check.equal("99", desk.type(FOUR, FOUR, FOUR, FOUR, 0x31310000), 99);
        Check.throwsState("101 by two", () -> desk.type(0x31000000, 0, 0, 0, 0x00000031));
        Check.equal("still 99", length(desk), 99);
        Check.equal("100", desk.type(0, 0, 0x00310000, 0, 0), 100);
        Check.throwsState("one more", () -> desk.type(0x31000000, 0, 0, 0, 0));
        Check.throwsState("one more, the last", () -> desk.type(0, 0, 0, 0, 1));
        Check.throwsState("one more blank", () -> desk.type(0, 0, ' ', 0, 0));
        Check.throwsState("one more, below 0", () -> desk.type(0x80000000, 0, 0, 0, 0));
        Check.throwsState("twenty more", () -> desk.type(FOUR, FOUR, FOUR, FOUR, FOUR));
        Check.equal("none more is not too many", length(desk), 100);
        Check.equal("erased", desk.erase(), 100);
        Check.equal("room again", desk.type(FOUR, FOUR, FOUR, FOUR, FOUR), 20);

        AntiDesk other = new AntiDesk();
        Check.type(other, "1".repeat(80));
        Check.equal("100 at once", other.type(FOUR, FOUR, FOUR, FOUR, FOUR), 100);
    }

    private static void erase() {
        AntiDesk desk = Check.desk("x^2+1");
        desk.write(0);
        Check.equal("5", desk.erase(), 5);
        Check.equal("0", desk.erase(), 0);
        Check.equal("empty", length(desk), 0);
        Check.equal("nothing to read", desk.read(1), AntiDesk.SIGN);
        Check.equal("the slot stays", desk.terms(0), 2);
        Check.equal("the output stays", desk.output(0), 'x');
        Check.type(desk, "l");
        Check.equal("the new line alone", desk.read(1), 1);
        Check.equal("l", Check.written(desk, 1), "l");
    }

    private static void readCounts() {
        AntiDesk desk = new AntiDesk();
        Check.equal("none", Check.read(desk, 0, "0"), 0);
        Check.equal("one", Check.read(desk, 1, "x+x"), 1);
        Check.equal("five", Check.read(desk, 2, "x+1+l+e(x)+s(x)"), 5);
        Check.equal("only its slot", desk.terms(1), 1);
        Check.equal("none again, in place of five", Check.read(desk, 2, "x-x"), 0);
        Check.equal("gone", desk.terms(2), 0);
        // The most that a line has room for.
        Check.equal("many", Check.read(desk, 0, "1+x+l+xl+x^2+x^3+x^4+x^5+x^6+x^7+x^8+x^9+l^2+l^3+l^4+l^5+l^6"
                + "+l^7+l^8+l^9+e(x)+s(x)+c(x)+x^2l"), 24);
        Check.equal("all of them", desk.terms(0), 24);
    }

    private static void signAtCharacter() {
        Check.refuses("y", AntiDesk.SIGN, 0);
        Check.refuses("+x", AntiDesk.SIGN, 0);
        Check.refuses("x+y", AntiDesk.SIGN, 2);
        Check.refuses("x+1)", AntiDesk.SIGN, 3);
        Check.refuses("x^y", AntiDesk.SIGN, 2);
        Check.refuses("\tx", AntiDesk.SIGN, 0);
        Check.refuses("x\n", AntiDesk.SIGN, 1);
        Check.refuses("x\u0001", AntiDesk.SIGN, 1);
        Check.refuses("x\u00ff", AntiDesk.SIGN, 1);
        Check.refuses("x\u00a0+1", AntiDesk.SIGN, 1);
        Check.refuses("x:2", AntiDesk.SIGN, 1);
        Check.refuses("x^:", AntiDesk.SIGN, 2);
        Check.refuses("1" + ".".repeat(99), AntiDesk.SIGN, 1);
        Check.refuses(" ".repeat(99) + "y", AntiDesk.SIGN, 99);
    }

    private static void signAtEnd() {
        Check.refuses("", AntiDesk.SIGN, 0);
        Check.refuses("-", AntiDesk.SIGN, 1);
        Check.refuses("x+", AntiDesk.SIGN, 2);
        Check.refuses("x^", AntiDesk.SIGN, 2);
        Check.refuses("x^-", AntiDesk.SIGN, 3);
        Check.refuses("1/", AntiDesk.SIGN, 2);
        Check.refuses("l^", AntiDesk.SIGN, 2);
        Check.refuses("e", AntiDesk.SIGN, 1);
        Check.refuses("e(", AntiDesk.SIGN, 2);
        Check.refuses("e(-", AntiDesk.SIGN, 3);
        Check.refuses("e(2", AntiDesk.SIGN, 3);
        Check.refuses("e(2x", AntiDesk.SIGN, 4);
        Check.refuses(" ".repeat(99) + "-", AntiDesk.SIGN, 100);
    }

    private static void denominatorNothing() {
        Check.refuses("1/0", AntiDesk.RANGE, 2);
        Check.refuses("1/00x", AntiDesk.RANGE, 2);
        Check.refuses("x-1/000e(x)", AntiDesk.RANGE, 4);
        Check.reads("1/1", "1");
        Check.reads("1/001", "1");
        Check.reads("0/1", "0");
    }

    private static void powerAbove() {
        Check.reads("x^12", "x^12");
        Check.reads("x^-12", "x^-12");
        Check.refuses("x^13", AntiDesk.RANGE, 2);
        Check.refuses("x^-13", AntiDesk.RANGE, 3);
        Check.refuses("x^013", AntiDesk.RANGE, 2);
        Check.refuses("x^20l", AntiDesk.RANGE, 2);
        Check.refuses("x^100", AntiDesk.RANGE, 2);
        Check.refuses("x^-999", AntiDesk.RANGE, 3);
    }

    private static void multipleAbove() {
        Check.reads("l^9", "l^9");
        Check.refuses("l^10", AntiDesk.RANGE, 2);
        Check.refuses("l^12", AntiDesk.RANGE, 2);
        Check.refuses("l^999", AntiDesk.RANGE, 2);
        Check.reads("e(9x)+e(-9x)", "e(-9x)+e(9x)");
        Check.reads("s(9x)+c(-9x)", "s(9x)+c(9x)");
        for (String function : new String[] {"e", "s", "c"}) {
            Check.refuses(function + "(10x)", AntiDesk.RANGE, 2);
            Check.refuses(function + "(-10x)", AntiDesk.RANGE, 3);
            Check.refuses(function + "(010x)", AntiDesk.RANGE, 2);
            Check.refuses(function + "(999x)", AntiDesk.RANGE, 2);
        }
    }

    private static void rangeInNothing() {
        Check.refuses("0/0", AntiDesk.RANGE, 2);
        Check.refuses("0/0x", AntiDesk.RANGE, 2);
        Check.refuses("0x^13", AntiDesk.RANGE, 3);
        Check.refuses("0x^-13", AntiDesk.RANGE, 4);
        Check.refuses("0l^10", AntiDesk.RANGE, 3);
        Check.refuses("0e(10x)", AntiDesk.RANGE, 3);
        Check.refuses("0s(-10x)", AntiDesk.RANGE, 4);
        Check.refuses("0c(10x)", AntiDesk.RANGE, 3);
        Check.refuses("x^13s(0x)", AntiDesk.RANGE, 2);
        Check.refuses("1/0s(0x)", AntiDesk.RANGE, 2);
        Check.refuses("x+0x^13", AntiDesk.RANGE, 5);
        Check.refuses("x^13-x^13", AntiDesk.RANGE, 2);
    }

    private static void firstDigit() {
        Check.refuses("x^013", AntiDesk.RANGE, 2);
        Check.refuses("x^ 13", AntiDesk.RANGE, 3);
        Check.refuses("x ^ -  13", AntiDesk.RANGE, 7);
        Check.refuses("l ^  010", AntiDesk.RANGE, 5);
        Check.refuses("e( - 10x)", AntiDesk.RANGE, 5);
        Check.refuses("s ( 10 x )", AntiDesk.RANGE, 4);
        Check.refuses("12 / 000", AntiDesk.RANGE, 5);
    }

    private static void firstFromTheLeft() {
        Check.refuses("y+x^13", AntiDesk.SIGN, 0);
        Check.refuses("x^13+y", AntiDesk.RANGE, 2);
        Check.refuses("x^13y", AntiDesk.RANGE, 2);
        Check.refuses("e(10y", AntiDesk.RANGE, 2);
        Check.refuses("e(10", AntiDesk.RANGE, 2);
        Check.refuses("1/0+x^13", AntiDesk.RANGE, 2);
        Check.refuses("x^13+1/0", AntiDesk.RANGE, 2);
        Check.refuses("1/0x^13l^10", AntiDesk.RANGE, 2);
        Check.refuses("1/2x^13l^10", AntiDesk.RANGE, 5);
        Check.refuses("y+z", AntiDesk.SIGN, 0);
        Check.refuses("x+1/0+", AntiDesk.RANGE, 4);
        Check.refuses("x++1/0", AntiDesk.SIGN, 2);
        Check.refuses("x^1234", AntiDesk.RANGE, 2);
        Check.refuses("1/0001", AntiDesk.RANGE, 2);
    }

    private static void thenFull() {
        String full = "1/177+1/565";
        Check.refuses(full, AntiDesk.FULL, AntiDesk.NONE);
        Check.refuses(full + "+", AntiDesk.SIGN, 12);
        Check.refuses(full + "y", AntiDesk.SIGN, 11);
        Check.refuses(full + "+x^13", AntiDesk.RANGE, 14);
        Check.refuses(full + "-1/0", AntiDesk.RANGE, 14);
        AntiDesk desk = new AntiDesk();
        Check.read(desk, 0, "xy");
        Check.equal("a place", desk.place(), 1);
        Check.equal("full", Check.read(desk, 0, full), AntiDesk.FULL);
        Check.equal("no place", desk.place(), AntiDesk.NONE);
    }

    private static void lastPlace() {
        AntiDesk desk = new AntiDesk();
        Check.read(desk, 0, "y");
        Check.equal("SIGN at 0", desk.place(), 0);
        Check.read(desk, 0, "x+1/0");
        Check.equal("RANGE at 4", desk.place(), 4);
        Check.equal("asked again", desk.place(), 4);
        Check.read(desk, 1, "xx");
        Check.equal("SIGN at 1", desk.place(), 1);
        desk.erase();
        Check.equal("not of the line that is there", desk.place(), 1);
        Check.type(desk, "x");
        desk.write(0);
        desk.derive(0, 1);
        Check.equal("until it is read", desk.place(), 1);
        Check.throwsArgument("read(8)", () -> desk.read(8));
        Check.equal("what throws is no read", desk.place(), 1);
    }

    private static void placeWithBlanks() {
        Check.refuses("  y", AntiDesk.SIGN, 2);
        Check.refuses(" x + y", AntiDesk.SIGN, 5);
        Check.refuses(" x + 1 / 0", AntiDesk.RANGE, 9);
        Check.refuses("x +  ", AntiDesk.SIGN, 5);
        Check.refuses("  ", AntiDesk.SIGN, 2);
        AntiDesk desk = new AntiDesk();
        desk.type(0x00200020, 0, 0x20000000, 0, 'y');
        Check.equal("read", desk.read(0), AntiDesk.SIGN);
        Check.equal("bytes 0 do not count", desk.place(), 3);
    }

    private static void noPlace() {
        for (String bad : new String[] {"xy", "1/0"}) {
            for (String good : new String[] {"x", "0", "1/177+1/565"}) {
                AntiDesk desk = new AntiDesk();
                Check.read(desk, 0, bad);
                Check.equal(bad + " has one", desk.place() >= 0, true);
                Check.read(desk, 0, good);
                Check.equal(good + " has none", desk.place(), AntiDesk.NONE);
            }
        }
    }

    private static void noRead() {
        AntiDesk desk = new AntiDesk();
        Check.equal("at first", desk.place(), AntiDesk.NONE);
        Check.type(desk, "y");
        Check.equal("typed, not read", desk.place(), AntiDesk.NONE);
        desk.erase();
        desk.write(0);
        Check.throwsArgument("read(-1)", () -> desk.read(-1));
        Check.equal("never read", desk.place(), AntiDesk.NONE);
    }

    private static void written() {
        AntiDesk desk = Check.desk("0", "x", "-1/2x^2+e(-x)");
        Check.equal("0", desk.write(0), 1);
        Check.equal("x", desk.write(1), 1);
        Check.equal("13", desk.write(2), 13);
        desk.derive(2, 1);
        Check.equal("the output stays, the slot being another", desk.output(12), ')');
        Check.equal("until it is written", desk.write(2), 1);
        Check.throwsArgument("-1", () -> desk.write(-1));
        Check.throwsArgument("8", () -> desk.write(8));
        Check.equal("what throws writes nothing", desk.output(0), '1');
    }

    // Forty terms with long numbers; each desk is asked for a third of the characters.
    private static void longest() {
        StringBuilder due = new StringBuilder();
        for (int n = 9; n >= 2; n--) {
            for (int power = 8; power <= 12; power++) {
                due.append("-8363442176/999x^-").append(power).append("e(-").append(n).append("x)");
            }
        }
        for (int third = 0; third < 3; third++) {
            AntiDesk desk = longDesk();
            Check.equal("terms", desk.terms(0), 40);
            Check.equal("length", desk.write(0), due.length());
            for (int k = third; k < due.length(); k += 3) {
                Check.equal("character " + k, desk.output(k), due.charAt(k));
            }
            Check.equal("its end", desk.output(due.length()), ' ');
        }
    }

    private static AntiDesk longDesk() {
        AntiDesk desk = new AntiDesk();
        for (int n = 9; n >= 2; n--) {
            Check.gather(desk, 0, 1, "-997/999x^-8e(-Nx)-997/999x^-9e(-Nx)-997/999x^-10e(-Nx)"
                    .replace("N", "" + n));
            Check.gather(desk, 0, 1, "-997/999x^-11e(-Nx)-997/999x^-12e(-Nx)".replace("N", "" + n));
        }
        for (int i = 0; i < 23; i++) {
            desk.add(0, 0, 0, 1, 1);
        }
        return desk;
    }

    private static void characters() {
        AntiDesk desk = Check.desk("x^2-13/7");
        Check.equal("before it is written", desk.output(0), ' ');
        desk.write(0);
        String due = "x^2-13/7";
        for (int k = 0; k < due.length(); k++) {
            Check.equal("character " + k, desk.output(k), due.charAt(k));
        }
    }

    private static void spaces() {
        AntiDesk desk = Check.desk("x^2-13/7", "5");
        desk.write(0);
        Check.equal("the last", desk.output(7), '7');
        for (int k : new int[] {8, 9, 100, 1199, 1200, 1_000_000, Integer.MAX_VALUE, -1, -8, Integer.MIN_VALUE}) {
            Check.equal("none such, " + k, desk.output(k), ' ');
        }
        desk.write(1);
        Check.equal("a shorter one", desk.output(0), '5');
        for (int k = 1; k < 9; k++) {
            Check.equal("no more, " + k, desk.output(k), ' ');
        }
    }
}
