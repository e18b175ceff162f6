/** What the tests share: counting wrong answers, and telling texts to a desk and reading its own. */
final class Check {
    private static int wrong = 0;
    private static String sentence = "";

    private Check() {
    }

    /** A test of its own for one sentence of the document, whose words are told with what is wrong. */
    static void sentence(String words, Runnable test) {
        sentence = "\"" + words + "\": ";
        try {
            test.run();
        } catch (RuntimeException e) {
            wrong++;
            System.out.println(sentence + "ended with " + e);
        }
        sentence = "";
    }

    static void equal(String what, Object got, Object due) {
        if (!got.equals(due)) {
            wrong++;
            System.out.println(sentence + what + " answered " + got + ", due is " + due);
        }
    }

    static void throwsArgument(String what, Runnable call) {
        equal(what, thrownBy(call), "IllegalArgumentException");
    }

    static void throwsState(String what, Runnable call) {
        equal(what, thrownBy(call), "IllegalStateException");
    }

    static String thrownBy(Runnable call) {
        try {
            call.run();
            return "nothing";
        } catch (RuntimeException e) {
            return e.getClass().getSimpleName();
        }
    }

    /** Ends the test: exit code 1 if an answer was wrong. */
    static void finish() {
        if (wrong > 0) {
            System.exit(1);
        }
    }

    /** Types a text behind what the line has, twenty characters a call. */
    static void type(AntiDesk desk, String text) {
        for (int start = 0; start < text.length(); start += 20) {
            desk.type(word(text, start), word(text, start + 4), word(text, start + 8),
                    word(text, start + 12), word(text, start + 16));
        }
    }

    static int word(String text, int start) {
        int word = 0;
        for (int i = start; i < start + 4; i++) {
            word = word << 8 | (i < text.length() ? text.charAt(i) : 0);
        }
        return word;
    }

    /** Reads a text alone into a slot. */
    static int read(AntiDesk desk, int slot, String text) {
        desk.erase();
        type(desk, text);
        return desk.read(slot);
    }

    static AntiDesk desk(String... sums) {
        AntiDesk desk = new AntiDesk();
        for (int slot = 0; slot < sums.length; slot++) {
            if (read(desk, slot, sums[slot]) < 0) {
                throw new IllegalArgumentException("a test's own sum: " + sums[slot]);
            }
        }
        return desk;
    }

    static String written(AntiDesk desk, int slot) {
        int length = desk.write(slot);
        StringBuilder text = new StringBuilder();
        for (int i = 0; i < length; i++) {
            text.append(desk.output(i));
        }
        return text.toString();
    }

    /** A line that can be read, and how its sum is written. */
    static void reads(String line, String due) {
        AntiDesk desk = new AntiDesk();
        int count = read(desk, 3, line);
        equal(line, written(desk, 3), due);
        equal(line + ": count", count, desk.terms(3));
        equal(line + ": place", desk.place(), AntiDesk.NONE);
    }

    /** A line that cannot be read, why, and where. */
    static void refuses(String line, int why, int place) {
        AntiDesk desk = desk("7x");
        equal(line, read(desk, 0, line), why);
        equal(line + ": place", desk.place(), place);
        equal(line + ": slot", written(desk, 0), "7x");
    }

    /** Numerator, denominator, kind, k or n, and power of a term. */
    static void isTerm(AntiDesk desk, int slot, int i, long... parts) {
        for (int what = 0; what < 5; what++) {
            equal("term " + i + " of " + slot + ", part " + what, desk.term(slot, i, what), parts[what]);
        }
    }

    /** Adds sums, one after the other, up in a slot; the other slot is for use on the way. */
    static void gather(AntiDesk desk, int slot, int other, String... sums) {
        for (String sum : sums) {
            if (read(desk, other, sum) < 0 || desk.add(slot, slot, other, 1, 1) < 0) {
                throw new IllegalArgumentException("a test's own sum: " + sum);
            }
        }
    }

    /** Makes a slot so many times a sum, by doubling; the other slot is for use on the way. */
    static void grow(AntiDesk desk, int slot, int other, String sum, long size) {
        read(desk, other, sum);
        desk.add(slot, slot, slot, -1, 1);
        for (int bit = 63 - Long.numberOfLeadingZeros(size); bit >= 0; bit--) {
            desk.add(slot, slot, slot, 1, 1);
            if ((size >> bit & 1) == 1) {
                desk.add(slot, slot, other, 1, 1);
            }
        }
    }
}
