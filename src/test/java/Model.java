import java.math.BigInteger;
import java.util.ArrayList;
import java.util.List;
import java.util.Map;
import java.util.TreeMap;
import java.util.regex.Matcher;
import java.util.regex.Pattern;

/**
 * The document's sums once more, for comparison: exact numbers without bounds in a sorted map, and
 * the line judged by one regular expression.
 */
final class Model {
    record Ratio(BigInteger top, BigInteger bottom) {
        static Ratio of(long top, long bottom) {
            return reduced(BigInteger.valueOf(top), BigInteger.valueOf(bottom));
        }

        private static Ratio reduced(BigInteger top, BigInteger bottom) {
            BigInteger common = top.gcd(bottom);
            common = bottom.signum() < 0 ? common.negate() : common;
            return new Ratio(top.divide(common), bottom.divide(common));
        }

        Ratio plus(Ratio o) {
            return reduced(top.multiply(o.bottom).add(o.top.multiply(bottom)), bottom.multiply(o.bottom));
        }

        Ratio by(Ratio o) {
            return reduced(top.multiply(o.top), bottom.multiply(o.bottom));
        }

        Ratio by(long p, long q) {
            return by(of(p, q));
        }

        boolean isWithin(long most, long mostBottom) {
            return top.abs().compareTo(BigInteger.valueOf(most)) <= 0
                    && bottom.compareTo(BigInteger.valueOf(mostBottom)) <= 0;
        }
    }

    record Shape(int kind, int argument, int power) implements Comparable<Shape> {
        @Override
        public int compareTo(Shape o) {
            if (kind != o.kind) {
                return Integer.compare(kind, o.kind);
            }
            return argument != o.argument ? Integer.compare(argument, o.argument) : Integer.compare(o.power, power);
        }
    }

    /** A refusal as the document names it. */
    static final class Refused extends RuntimeException {
        private static final long serialVersionUID = 1L;
        final int why;
        final int place;

        Refused(int why, int place) {
            this.why = why;
            this.place = place;
        }
    }

    final TreeMap<Shape, Ratio> parts = new TreeMap<>();

    Model put(int kind, int argument, int power, Ratio size) {
        if (kind >= 3 && argument < 0) {
            return put(kind, -argument, power, kind == 3 ? size.by(-1, 1) : size);
        }
        if (kind == 3 && argument == 0) {
            return this;
        }
        Shape shape = argument == 0 ? new Shape(0, 0, power) : new Shape(kind, argument, power);
        Ratio sum = parts.getOrDefault(shape, Ratio.of(0, 1)).plus(size);
        if (sum.top().signum() == 0) {
            parts.remove(shape);
        } else {
            parts.put(shape, sum);
        }
        return this;
    }

    boolean fits() {
        for (Map.Entry<Shape, Ratio> e : parts.entrySet()) {
            if (!e.getValue().isWithin(10_000_000_000L, 100_000) || Math.abs(e.getKey().power()) > 12
                    || Math.abs(e.getKey().argument()) > 9) {
                return false;
            }
        }
        return parts.size() <= 40;
    }

    boolean isSmall() {
        for (Map.Entry<Shape, Ratio> e : parts.entrySet()) {
            if (!e.getValue().isWithin(100, 6) || Math.abs(e.getKey().power()) > 4
                    || Math.abs(e.getKey().argument()) > 3) {
                return false;
            }
        }
        return true;
    }

    Model plus(Model b, int p, int q) {
        Model sum = new Model();
        sum.parts.putAll(parts);
        b.parts.forEach((s, r) -> sum.put(s.kind(), s.argument(), s.power(), r.by(p, q)));
        return sum;
    }

    Model times(Model b) {
        if (parts.size() * b.parts.size() > 100) {
            throw new Refused(AntiDesk.FULL, 0);
        }
        Model product = new Model();
        parts.forEach((s, r) -> b.parts.forEach((t, u) -> product.putProduct(s, t, r.by(u))));
        return product;
    }

    private void putProduct(Shape s, Shape t, Ratio r) {
        int power = s.power() + t.power();
        int sum = s.argument() + t.argument();
        int difference = s.argument() - t.argument();
        switch (10 * s.kind() + t.kind()) {
            case 0, 1, 2, 3, 4 -> put(t.kind(), t.argument(), power, r);
            case 10, 20, 30, 40 -> put(s.kind(), s.argument(), power, r);
            case 11, 22 -> put(s.kind(), sum, power, r);
            case 33 -> put(4, difference, power, r.by(1, 2)).put(4, sum, power, r.by(-1, 2));
            case 44 -> put(4, difference, power, r.by(1, 2)).put(4, sum, power, r.by(1, 2));
            case 34 -> put(3, difference, power, r.by(1, 2)).put(3, sum, power, r.by(1, 2));
            case 43 -> put(3, -difference, power, r.by(1, 2)).put(3, sum, power, r.by(1, 2));
            default -> throw new Refused(AntiDesk.KIND, 0);
        }
    }

    Model derived() {
        Model d = new Model();
        parts.forEach((s, r) -> {
            int n = s.argument();
            d.put(s.kind(), n, s.power() - 1, r.by(s.power(), 1));
            switch (s.kind()) {
                case 1 -> d.put(1, n - 1, s.power() - 1, r.by(n, 1));
                case 2 -> d.put(2, n, s.power(), r.by(n, 1));
                case 3 -> d.put(4, n, s.power(), r.by(n, 1));
                case 4 -> d.put(3, n, s.power(), r.by(-n, 1));
                default -> { }
            }
        });
        return d;
    }

    /** F: takes away from what is left, as long as some term there is no rest, a derivative of it. */
    static Model integral(Model a, Model rest) {
        Model done = new Model();
        Model left = a.plus(new Model(), 1, 1);
        for (int step = 0; step < 10_000; step++) {
            Shape s = firstToDo(left);
            if (s == null) {
                rest.parts.putAll(left.parts);
                return done;
            }
            Model piece = new Model().putGuess(s, left.parts.get(s));
            done = done.plus(piece, 1, 1);
            left = left.plus(piece.derived(), -1, 1);
        }
        throw new IllegalStateException("no end");
    }

    private static Shape firstToDo(Model left) {
        Shape best = null;
        for (Shape s : left.parts.keySet()) {
            boolean rest = s.kind() >= 2 && s.power() == -1;
            if (!rest && (best == null || s.kind() == 1 && s.argument() > best.argument()
                    || s.kind() >= 2 && Math.abs(s.power()) > Math.abs(best.power()))) {
                best = s;
            }
        }
        return best;
    }

    // A term whose derivative has the wanted one, and others that are nearer to the end.
    private Model putGuess(Shape s, Ratio r) {
        int n = s.argument();
        int m = s.power();
        if (s.kind() < 2) {
            return m == -1 ? put(1, n + 1, 0, r.by(1, n + 1)) : put(s.kind(), n, m + 1, r.by(1, m + 1));
        }
        if (m < 0) {
            return put(s.kind(), n, m + 1, r.by(1, m + 1));
        }
        if (s.kind() == 2) {
            return put(2, n, m, r.by(1, n));
        }
        return s.kind() == 3 ? put(4, n, m, r.by(-1, n)) : put(3, n, m, r.by(1, n));
    }

    String written() {
        StringBuilder text = new StringBuilder();
        parts.forEach((s, r) -> {
            String size = r.bottom().equals(BigInteger.ONE) ? r.top().toString() : r.top() + "/" + r.bottom();
            String behind = writtenPower("x", s.power()) + function(s);
            boolean one = size.matches("-?1") && !behind.isEmpty();
            text.append(text.length() > 0 && r.top().signum() > 0 ? "+" : "");
            text.append(one ? size.replace("1", "") : size).append(behind);
        });
        return text.length() == 0 ? "0" : text.toString();
    }

    private static String writtenPower(String base, int power) {
        return power == 0 ? "" : power == 1 ? base : base + "^" + power;
    }

    private static String function(Shape s) {
        String n = s.argument() == 1 ? "" : s.argument() == -1 ? "-" : "" + s.argument();
        return s.kind() == 0 ? "" : s.kind() == 1 ? writtenPower("l", s.argument())
                : " lesc".charAt(s.kind()) + "(" + n + "x)";
    }

    // In the patterns a blank stands for any number of blanks.
    private static final String NUMBER = "\\d{1,3}";
    private static final String SIZE = NUMBER + "(?: / " + NUMBER + ")?";
    private static final String POWER = "x(?: \\^ -? " + NUMBER + ")?";
    private static final String FUNCTION = "(?:l(?: \\^ " + NUMBER + ")?|[esc] \\( -? (?:" + NUMBER + ")? x \\))";
    private static final String TERM = "(?:" + SIZE + "(?: " + POWER + ")?(?: " + FUNCTION + ")?|"
            + POWER + "(?: " + FUNCTION + ")?|" + FUNCTION + ")";
    private static final Pattern LINE = spaced(" -? " + TERM + "(?: [+-] " + TERM + ")* ");
    private static final Pattern RANGED = spaced("(?:(/)|(x|l) \\^ -?|(\\() -?) (" + NUMBER + ")");
    private static final Pattern PARTS = spaced("([+-])? (?:(" + NUMBER + ")(?: / (" + NUMBER + "))?)? (x(?: \\^ (-? "
            + NUMBER + "))?)? (?:(l)(?: \\^ (" + NUMBER + "))?|([esc]) \\( (-?) (" + NUMBER + ")? x \\))? ");

    private static Pattern spaced(String pattern) {
        return Pattern.compile(pattern.replace(" ", "[ ]*"));
    }

    private static boolean mayGoOn(String start) {
        Matcher m = LINE.matcher(start);
        return m.matches() || m.hitEnd();
    }

    static Model read(String line) {
        int good = 0;
        while (good < line.length() && mayGoOn(line.substring(0, good + 1))) {
            good++;
        }
        refuseRanges(line.substring(0, good));
        if (!LINE.matcher(line).matches()) {
            throw new Refused(AntiDesk.SIGN, good);
        }
        Model sum = new Model();
        boolean full = false;
        for (String term : split(line)) {
            sum.putRead(term);
            full |= !sum.fits();
        }
        if (full) {
            throw new Refused(AntiDesk.FULL, AntiDesk.NONE);
        }
        return sum;
    }

    private static void refuseRanges(String good) {
        Matcher m = RANGED.matcher(good);
        while (m.find()) {
            int number = Integer.parseInt(m.group(4));
            boolean bad = m.group(1) != null ? number == 0 : "x".equals(m.group(2)) ? number > 12 : number > 9;
            if (bad) {
                throw new Refused(AntiDesk.RANGE, m.start(4));
            }
        }
    }

    // A sign stands between terms, or before the first, unless it is behind ^ or (.
    private static List<String> split(String line) {
        List<String> terms = new ArrayList<>();
        String text = line.replace(" ", "");
        int start = 0;
        for (int i = 1; i <= text.length(); i++) {
            if (i == text.length() || "+-".indexOf(text.charAt(i)) >= 0 && "^(".indexOf(text.charAt(i - 1)) < 0) {
                terms.add(text.substring(start, i));
                start = i;
            }
        }
        return terms;
    }

    private void putRead(String term) {
        Matcher m = PARTS.matcher(term);
        if (!m.matches()) {
            throw new IllegalStateException("the model's own: " + term);
        }
        int sign = "-".equals(m.group(1)) ? -1 : 1;
        Ratio size = Ratio.of(sign * number(m.group(2), 1), number(m.group(3), 1));
        int power = m.group(4) == null ? 0 : number(m.group(5), 1);
        if (m.group(6) != null) {
            put(1, number(m.group(7), 1), power, size);
        } else if (m.group(8) != null) {
            int n = number(m.group(10), 1);
            put(2 + "esc".indexOf(m.group(8)), m.group(9).isEmpty() ? n : -n, power, size);
        } else {
            put(0, 0, power, size);
        }
    }

    private static int number(String text, int without) {
        return text == null ? without : Integer.parseInt(text);
    }
}
