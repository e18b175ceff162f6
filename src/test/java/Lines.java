/** Lines for random runs: most can be read, some are spoilt. */
final class Lines {
    private static final String FUNCTIONS = "lesc";

    private Lines() {
    }

    static String line(Dice dice) {
        int kind = dice.below(5);
        boolean small = !dice.oneIn(3);
        int count = 1 + dice.below(dice.oneIn(2) ? 3 : 16);
        StringBuilder line = new StringBuilder(dice.oneIn(4) ? "-" : "");
        for (int i = 0; i < count && line.length() < 75; i++) {
            line.append(i == 0 ? "" : dice.oneIn(2) ? "+" : "-");
            line.append(term(dice, dice.oneIn(4) ? dice.below(5) : kind, small));
        }
        if (dice.oneIn(4)) {
            spoil(dice, line);
        }
        for (int i = dice.below(2) * dice.below(6); i > 0; i--) {
            line.insert(dice.below(line.length() + 1), ' ');
        }
        return line.substring(0, Math.min(100, line.length()));
    }

    private static String term(Dice dice, int kind, boolean small) {
        String size = size(dice, small);
        String power = dice.oneIn(3) ? "" : power(dice, small);
        String function = kind == 0 ? "" : function(dice, FUNCTIONS.charAt(kind - 1), small ? 4 : 10);
        String term = size + power + function;
        return term.isEmpty() ? "1" : term;
    }

    private static String size(Dice dice, boolean small) {
        if (dice.oneIn(2)) {
            return "";
        }
        String top = "" + dice.below(small ? 20 : 1000);
        return dice.oneIn(2) ? top : top + "/" + (1 + dice.below(small ? 6 : 300));
    }

    private static String power(Dice dice, boolean small) {
        if (dice.oneIn(4)) {
            return "";
        }
        int most = small ? 4 : 12;
        int power = dice.below(2 * most + 1) - most;
        return power == 1 ? "x" : "x^" + power;
    }

    private static String function(Dice dice, char sign, int limit) {
        int n = dice.below(limit);
        if (sign == 'l') {
            return n == 1 ? "l" : "l^" + n;
        }
        return sign + "(" + (dice.oneIn(2) ? "-" : "") + (n == 1 ? "" : "" + n) + "x)";
    }

    private static void spoil(Dice dice, StringBuilder line) {
        String signs = "0123456789x^/+-lesc() y";
        int place = dice.below(line.length() + 1);
        char sign = signs.charAt(dice.below(signs.length()));
        if (place < line.length() && dice.oneIn(2)) {
            line.deleteCharAt(place);
        } else if (place < line.length() && dice.oneIn(2)) {
            line.setCharAt(place, sign);
        } else {
            line.insert(place, sign);
        }
    }
}
