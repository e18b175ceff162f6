/** What the tests share: counting wrong answers, and telling texts to a desk and reading its own. */
final class Check {
    private static int wrong = 0;

    private Check() {
    }

    static void equal(String what, Object got, Object due) {
        if (!got.equals(due)) {
            wrong++;
            System.out.println(what + " answered " + got + ", due is " + due);
        }
    }

    static void throwsArgument(String what, Runnable call) {
        equal(what, thrownBy(call), "IllegalArgumentException");
    }

    static void throwsState(String what, Runnable call) {
        equal(what, thrownBy(call), "IllegalStateException");
    }

    static String thrownBy(Runnable call) {
        try {
            call.run();
            return "nothing";
        } catch (RuntimeException e) {
            return e.getClass().getSimpleName();
        }
    }

    /** Ends the test: exit code 1 if an answer was wrong. */
    static void finish() {
        if (wrong > 0) {
            System.exit(1);
        }
    }

    /** Types a text behind what the line has, twenty characters a call. */
    static void type(AntiDesk desk, String text) {
        for (int start = 0; start < text.length(); start += 20) {
            desk.type(word(text, start), word(text, start + 4), word(text, start + 8),
                    word(text, start + 12), word(text, start + 16));
        }
    }

    static int word(String text, int start) {
        int word = 0;
        for (int i = start; i < start + 4; i++) {
            word = word << 8 | (i < text.length() ? text.charAt(i) : 0);
        }
        return word;
    }

    /** Reads a text alone into a slot. */
    static int read(AntiDesk desk, int slot, String text) {
        desk.erase();
        type(desk, text);
        return desk.read(slot);
    }

    static AntiDesk desk(String... sums) {
        AntiDesk desk = new AntiDesk();
        for (int slot = 0; slot < sums.length; slot++) {
            if (read(desk, slot, sums[slot]) < 0) {
                throw new IllegalArgumentException("a test's own sum: " + sums[slot]);
            }
        }
        return desk;
    }

    static String written(AntiDesk desk, int slot) {
        int length = desk.write(slot);
        StringBuilder text = new StringBuilder();
        for (int i = 0; i < length; i++) {
            text.append(desk.output(i));
        }
        return text.toString();
    }

    /** Adds sums, one after the other, up in a slot; the other slot is for use on the way. */
    static void gather(AntiDesk desk, int slot, int other, String... sums) {
        for (String sum : sums) {
            if (read(desk, other, sum) < 0 || desk.add(slot, slot, other, 1, 1) < 0) {
                throw new IllegalArgumentException("a test's own sum: " + sum);
            }
        }
    }
}
