/** All that can be seen of a desk without changing it, as one text. */
final class State {
    // An object may be asked 512 times at most, so the tests keep outputs short.
    private static final int OUTPUT = 12;

    private State() {
    }

    static String of(AntiDesk desk) {
        StringBuilder text = new StringBuilder();
        text.append("line ").append(desk.type(0, 0, 0, 0, 0));
        text.append(", place ").append(desk.place()).append(", output ");
        for (int k = 0; k < OUTPUT; k++) {
            text.append(desk.output(k));
        }
        for (int slot = 0; slot < 8; slot++) {
            text.append(", slot ").append(slot).append(':');
            for (int i = desk.terms(slot) - 1; i >= 0; i--) {
                for (int what = 0; what < 5; what++) {
                    text.append(' ').append(desk.term(slot, i, what));
                }
            }
        }
        return text.toString();
    }
}
