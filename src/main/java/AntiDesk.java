/** Sums of terms with powers, exponentials, sines, cosines and logarithms; see README.md. */
public final class AntiDesk {
    public static final int NONE = -1;
    public static final int SIGN = -2;
    public static final int RANGE = -3;
    public static final int FULL = -4;
    public static final int KIND = -5;

    private static final int SLOTS = 8;
    private static final int MOST_TERMS = 40;
    private static final int MOST_CHARACTERS = 100;
    private static final int MOST_PRODUCTS = 100;
    private static final int MOST_FACTOR = 100;
    private static final int MOST_DIVISOR = 6;

    // A hundred products of two waves make two terms each, forty integrals at most five each.
    private static final int WORK_TERMS = 200;

    // A term is written with at most 30 characters, as -10000000000/100000x^-12e(-9x) would be.
    private static final int MOST_WRITTEN = 30 * MOST_TERMS;

    // Never typed, as a byte 0 is no character.
    private static final char END = 0;

    private static final int PLAIN = 0;
    private static final int LOG = 1;
    private static final int EXP = 2;
    private static final int SIN = 3;
    private static final int COS = 4;

    private final Sum[] slots;
    private final Sum work;
    private final Sum left;
    private final Line line;
    private final Reader reader;
    private final Writer writer;

    public AntiDesk() {
        slots = new Sum[SLOTS];
        for (int i = 0; i < SLOTS; i++) {
            slots[i] = new Sum(MOST_TERMS);
        }
        work = new Sum(WORK_TERMS);
        left = new Sum(MOST_TERMS);
        line = new Line();
        reader = new Reader(line, work);
        writer = new Writer();
    }

    public int type(int a, int b, int c, int d, int e) throws IllegalStateException {
        int more = Line.charactersIn(a) + Line.charactersIn(b) + Line.charactersIn(c)
                + Line.charactersIn(d) + Line.charactersIn(e);
        if (line.length() + more > MOST_CHARACTERS) {
            throw new IllegalStateException("the line would be too long");
        }
        line.append(a);
        line.append(b);
        line.append(c);
        line.append(d);
        line.append(e);
        return line.length();
    }

    public int erase() {
        int had = line.length();
        line.clear();
        return had;
    }

    public int read(int slot) throws IllegalArgumentException {
        if (!isSlot(slot)) {
            throw new IllegalArgumentException("no such slot");
        }
        int fault = reader.readLine();
        return fault == Reader.NO_FAULT ? settle(slot) : fault;
    }

    public int place() {
        return reader.faultPlace();
    }

    public int write(int slot) throws IllegalArgumentException {
        if (!isSlot(slot)) {
            throw new IllegalArgumentException("no such slot");
        }
        writer.writeSum(slots[slot]);
        return writer.length();
    }

    public char output(int k) {
        return writer.charAt(k);
    }

    public int add(int to, int a, int b, int p, int q)
            throws IllegalArgumentException, IllegalStateException {
        if (!isSlot(to) || !isSlot(a) || !isSlot(b)) {
            throw new IllegalArgumentException("no such slot");
        }
        if (p < -MOST_FACTOR || p > MOST_FACTOR || q < 1 || q > MOST_DIVISOR) {
            throw new IllegalArgumentException("no such factor");
        }
        if (p != q && p != -q && !slots[b].isSmall()) {
            throw new IllegalStateException("the second sum is not small");
        }
        work.clear();
        work.putAll(slots[a], 1, 1);
        work.putAll(slots[b], p, q);
        return settle(to);
    }

    public int times(int to, int a, int b) throws IllegalArgumentException, IllegalStateException {
        if (!isSlot(to) || !isSlot(a) || !isSlot(b)) {
            throw new IllegalArgumentException("no such slot");
        }
        if (!slots[a].isSmall() || !slots[b].isSmall()) {
            throw new IllegalStateException("a factor is not small");
        }
        if (slots[a].size() * slots[b].size() > MOST_PRODUCTS) {
            return FULL;
        }
        if (!Product.canBeTold(slots[a], slots[b])) {
            return KIND;
        }
        work.clear();
        Product.putProduct(work, slots[a], slots[b]);
        return settle(to);
    }

    public int derive(int to, int a) throws IllegalArgumentException {
        if (!isSlot(to) || !isSlot(a)) {
            throw new IllegalArgumentException("no such slot");
        }
        work.clear();
        Calculus.putDerivative(work, slots[a]);
        return settle(to);
    }

    public int integrate(int to, int rest, int a)
            throws IllegalArgumentException, IllegalStateException {
        if (!isSlot(to) || !isSlot(rest) || !isSlot(a)) {
            throw new IllegalArgumentException("no such slot");
        }
        if (!slots[a].isSmall()) {
            throw new IllegalStateException("the sum is not small");
        }
        work.clear();
        left.clear();
        Calculus.putIntegral(work, left, slots[a]);
        if (!work.fits() || !left.fits()) {
            return FULL;
        }
        slots[to].become(work);
        slots[rest].become(left);
        return left.size();
    }

    public boolean same(int a, int b) throws IllegalArgumentException {
        if (!isSlot(a) || !isSlot(b)) {
            throw new IllegalArgumentException("no such slot");
        }
        return slots[a].matches(slots[b]);
    }

    public int terms(int slot) throws IllegalArgumentException {
        if (!isSlot(slot)) {
            throw new IllegalArgumentException("no such slot");
        }
        return slots[slot].size();
    }

    public long term(int slot, int i, int what) throws IllegalArgumentException {
        if (!isSlot(slot)) {
            throw new IllegalArgumentException("no such slot");
        }
        if (what < 0 || what > 4) {
            throw new IllegalArgumentException("no such part of a term");
        }
        Sum sum = slots[slot];
        if (!sum.has(i)) {
            return 0;
        }
        switch (what) {
            case 0: return sum.topAt(i);
            case 1: return sum.bottomAt(i);
            case 2: return sum.kindAt(i);
            case 3: return sum.argumentAt(i);
            default: return sum.powerAt(i);
        }
    }

    private static boolean isSlot(int slot) {
        return slot >= 0 && slot < SLOTS;
    }

    private int settle(int to) {
        if (!work.fits()) {
            return FULL;
        }
        slots[to].become(work);
        return work.size();
    }

    /** What was typed. */
    private static final class Line {
        private final char[] characters = new char[MOST_CHARACTERS];
        private int length = 0;

        static int charactersIn(int word) {
            int count = 0;
            for (int shift = 24; shift >= 0; shift -= 8) {
                if ((word >>> shift & 255) != 0) {
                    count++;
                }
            }
            return count;
        }

        void append(int word) {
            for (int shift = 24; shift >= 0; shift -= 8) {
                int character = word >>> shift & 255;
                if (character != 0 && length < MOST_CHARACTERS) {
                    characters[length] = (char) character;
                    length++;
                }
            }
        }

        void clear() {
            length = 0;
        }

        int length() {
            return length;
        }

        char charAt(int i) {
            return i >= 0 && i < length ? characters[i] : END;
        }
    }

    /** Terms in their order, each function and power once, none with 0, all in lowest terms. */
    private static final class Sum {
        private static final long MOST_TOP = 10_000_000_000L;
        private static final long MOST_BOTTOM = 100_000L;
        private static final int MOST_POWER = 12;
        private static final int MOST_ARGUMENT = 9;
        private static final int SMALL_TOP = 100;
        private static final int SMALL_BOTTOM = 6;
        private static final int SMALL_POWER = 4;
        private static final int SMALL_ARGUMENT = 3;

        // Euclid's steps on two longs are fewer than this.
        private static final int MOST_STEPS = 100;

        private final int room;
        private final int[] keys;
        private final long[] tops;
        private final long[] bottoms;
        private int size;
        private boolean overflown;

        Sum(int room) {
            this.room = room;
            keys = new int[room];
            tops = new long[room];
            bottoms = new long[room];
            size = 0;
            overflown = false;
        }

        // Kind, argument and power are packed so that the order of keys is the order of terms.
        private static int keyOf(int kind, int argument, int power) {
            return kind << 11 | (argument + 16) << 6 | (31 - power);
        }

        void clear() {
            size = 0;
            overflown = false;
        }

        int size() {
            return size;
        }

        boolean has(int i) {
            return i >= 0 && i < size;
        }

        long topAt(int i) {
            return has(i) ? tops[i] : 0;
        }

        long bottomAt(int i) {
            return has(i) ? bottoms[i] : 1;
        }

        int kindAt(int i) {
            return has(i) ? keys[i] >> 11 : PLAIN;
        }

        int argumentAt(int i) {
            return has(i) ? (keys[i] >> 6 & 31) - 16 : 0;
        }

        int powerAt(int i) {
            return has(i) ? 31 - (keys[i] & 63) : 0;
        }

        /** Adds a term that may still have an argument 0 or below, or a bottom below 0. */
        void put(int kind, int argument, int power, long top, long bottom) {
            boolean wave = kind == SIN || kind == COS;
            if (argument == 0) {
                if (kind != SIN) {
                    addUp(keyOf(PLAIN, 0, power), top, bottom);
                }
            } else if (wave && argument < 0) {
                addUp(keyOf(kind, -argument, power), kind == SIN ? -top : top, bottom);
            } else {
                addUp(keyOf(kind, argument, power), top, bottom);
            }
        }

        void putAll(Sum other, long top, long bottom) {
            for (int i = 0; i < other.size; i++) {
                addUp(other.keys[i], other.tops[i] * top, other.bottoms[i] * bottom);
            }
        }

        private void addUp(int key, long top, long bottom) {
            int i = placeFor(key);
            boolean known = i < size && keys[i] == key;
            long newTop = known ? tops[i] * bottom + top * bottoms[i] : top;
            long newBottom = known ? bottoms[i] * bottom : bottom;
            if (newTop == 0) {
                if (known) {
                    closeAt(i);
                }
                return;
            }
            if (!known && !openAt(i)) {
                overflown = true;
                return;
            }
            keys[i] = key;
            setReduced(i, newTop, newBottom);
        }

        private int placeFor(int key) {
            int i = 0;
            while (i < size && keys[i] < key) {
                i++;
            }
            return i;
        }

        private boolean openAt(int i) {
            if (size >= room) {
                return false;
            }
            for (int k = size; k > i; k--) {
                keys[k] = keys[k - 1];
                tops[k] = tops[k - 1];
                bottoms[k] = bottoms[k - 1];
            }
            size++;
            return true;
        }

        private void closeAt(int i) {
            for (int k = i; k + 1 < size; k++) {
                keys[k] = keys[k + 1];
                tops[k] = tops[k + 1];
                bottoms[k] = bottoms[k + 1];
            }
            size--;
        }

        private void setReduced(int i, long top, long bottom) {
            long common = commonDivisor(Math.abs(top), Math.abs(bottom));
            long divisor = bottom < 0 ? -common : common;
            if (divisor == 0) {
                overflown = true;
                return;
            }
            tops[i] = top / divisor;
            bottoms[i] = bottom / divisor;
        }

        private static long commonDivisor(long a, long b) {
            for (int i = 0; i < MOST_STEPS && b != 0; i++) {
                long remainder = a % b;
                a = b;
                b = remainder;
            }
            return a;
        }

        /** Whether a slot may have this sum. */
        boolean fits() {
            if (overflown || size > MOST_TERMS) {
                return false;
            }
            return isWithin(MOST_TOP, MOST_BOTTOM, MOST_POWER, MOST_ARGUMENT);
        }

        boolean isSmall() {
            return isWithin(SMALL_TOP, SMALL_BOTTOM, SMALL_POWER, SMALL_ARGUMENT);
        }

        private boolean isWithin(long top, long bottom, int power, int argument) {
            for (int i = 0; i < size; i++) {
                if (Math.abs(tops[i]) > top || bottoms[i] > bottom
                        || Math.abs(powerAt(i)) > power || Math.abs(argumentAt(i)) > argument) {
                    return false;
                }
            }
            return true;
        }

        void become(Sum other) {
            size = Math.min(other.size, room);
            overflown = other.overflown;
            for (int i = 0; i < size; i++) {
                keys[i] = other.keys[i];
                tops[i] = other.tops[i];
                bottoms[i] = other.bottoms[i];
            }
        }

        boolean matches(Sum other) {
            if (size != other.size) {
                return false;
            }
            for (int i = 0; i < size; i++) {
                if (keys[i] != other.keys[i] || tops[i] != other.tops[i]
                        || bottoms[i] != other.bottoms[i]) {
                    return false;
                }
            }
            return true;
        }
    }

    /** Reads the line from the left, and stops at the first fault. */
    private static final class Reader {
        static final int NO_FAULT = 0;
        private static final int FAULTY = -1;
        private static final int MOST_DIGITS = 3;
        private static final int MOST_NUMBER = 999;

        private final Line line;
        private final Sum sum;
        private int at = 0;
        private int fault = NO_FAULT;
        private int faultPlace = NONE;
        private long top = 0;
        private long bottom = 1;
        private int power = 0;
        private int kind = PLAIN;
        private int argument = 0;

        Reader(Line line, Sum sum) {
            this.line = line;
            this.sum = sum;
        }

        int faultPlace() {
            return faultPlace;
        }

        /** The fault, FULL among them, or NO_FAULT: then the sum is what the line says. */
        int readLine() {
            at = 0;
            fault = NO_FAULT;
            faultPlace = NONE;
            sum.clear();
            boolean full = false;
            boolean below = takes('-');
            for (int i = 0; i < MOST_CHARACTERS; i++) {
                if (!readTerm(below)) {
                    return fault;
                }
                full = full || !addTerm();
                if (next() == END) {
                    break;
                }
                below = takes('-');
                if (!below && !takes('+')) {
                    refuse(SIGN, at);
                    return fault;
                }
            }
            return full ? FULL : NO_FAULT;
        }

        // Asked after each term, as a sum on the way may be beyond the bounds and come back.
        private boolean addTerm() {
            sum.put(kind, argument, power, top, bottom);
            return sum.fits();
        }

        private boolean readTerm(boolean below) {
            top = 1;
            bottom = 1;
            power = 0;
            kind = PLAIN;
            argument = 0;
            // Blanks before the term are no part of it.
            next();
            int start = at;
            if (!readCoefficient() || !readPower() || !readFunction()) {
                return false;
            }
            top = below ? -top : top;
            return at > start || refuse(SIGN, at);
        }

        private boolean readCoefficient() {
            if (!isDigit(next())) {
                return true;
            }
            top = readNumber(0, MOST_NUMBER);
            if (takes('/')) {
                int number = readNumber(1, MOST_NUMBER);
                if (number == FAULTY) {
                    return false;
                }
                bottom = number;
            }
            return true;
        }

        private boolean readPower() {
            if (!takes('x')) {
                return true;
            }
            power = 1;
            if (takes('^')) {
                boolean below = takes('-');
                int number = readNumber(0, Sum.MOST_POWER);
                if (number == FAULTY) {
                    return false;
                }
                power = below ? -number : number;
            }
            return true;
        }

        private boolean readFunction() {
            if (takes('l')) {
                kind = LOG;
                return readLogPower();
            }
            if (takes('e')) {
                kind = EXP;
            } else if (takes('s')) {
                kind = SIN;
            } else if (takes('c')) {
                kind = COS;
            } else {
                return true;
            }
            return expect('(') && readMultiple() && expect('x') && expect(')');
        }

        private boolean readLogPower() {
            argument = 1;
            if (takes('^')) {
                argument = readNumber(0, Sum.MOST_ARGUMENT);
            }
            return argument != FAULTY;
        }

        private boolean readMultiple() {
            boolean below = takes('-');
            int number = 1;
            if (isDigit(next())) {
                number = readNumber(0, Sum.MOST_ARGUMENT);
                if (number == FAULTY) {
                    return false;
                }
            }
            argument = below ? -number : number;
            return true;
        }

        private int readNumber(int least, int most) {
            if (!isDigit(next())) {
                refuse(SIGN, at);
                return FAULTY;
            }
            int first = at;
            int number = 0;
            // Not by next(), as a blank ends a number.
            for (int i = 0; i < MOST_DIGITS && isDigit(line.charAt(at)); i++) {
                number = 10 * number + (line.charAt(at) - '0');
                at++;
            }
            if (number < least || number > most) {
                refuse(RANGE, first);
                return FAULTY;
            }
            return number;
        }

        private boolean expect(char wanted) {
            return takes(wanted) || refuse(SIGN, at);
        }

        private boolean takes(char wanted) {
            if (next() != wanted) {
                return false;
            }
            at++;
            return true;
        }

        private char next() {
            while (at < line.length && line.characters[at] == ' ') {
                at++;
            }
            return at < line.length ? line.characters[at] : END;
        }

        private boolean refuse(int why, int where) {
            fault = why;
            faultPlace = where;
            return false;
        }

        private static boolean isDigit(char character) {
            return character >= '0' && character <= '9';
        }
    }

    /** The output. */
    private static final class Writer {
        // Numerators, the longest numbers, have eleven digits.
        private static final long GREATEST_DIGIT = 10_000_000_000L;

        private final char[] characters = new char[MOST_WRITTEN];
        private int length = 0;

        int length() {
            return length;
        }

        char charAt(int i) {
            return i >= 0 && i < length ? characters[i] : ' ';
        }

        void writeSum(Sum sum) {
            length = 0;
            for (int i = 0; i < sum.size(); i++) {
                writeTerm(sum, i);
            }
            if (length == 0) {
                append('0');
            }
        }

        private void writeTerm(Sum sum, int i) {
            if (sum.topAt(i) < 0) {
                append('-');
            } else if (i > 0) {
                append('+');
            }
            boolean alone = sum.kindAt(i) == PLAIN && sum.powerAt(i) == 0;
            writeCoefficient(Math.abs(sum.topAt(i)), sum.bottomAt(i), alone);
            writePower(sum.powerAt(i));
            writeFunction(sum.kindAt(i), sum.argumentAt(i));
        }

        private void writeCoefficient(long top, long bottom, boolean alone) {
            if (alone || top != 1 || bottom != 1) {
                writeNumber(top);
            }
            if (bottom != 1) {
                append('/');
                writeNumber(bottom);
            }
        }

        private void writePower(int power) {
            if (power != 0) {
                append('x');
                writeExponent(power);
            }
        }

        private void writeExponent(int exponent) {
            if (exponent != 1) {
                append('^');
                writeNumber(exponent);
            }
        }

        private void writeFunction(int kind, int argument) {
            switch (kind) {
                case LOG:
                    append('l');
                    writeExponent(argument);
                    break;
                case EXP:
                    append('e');
                    writeMultiple(argument);
                    break;
                case SIN:
                    append('s');
                    writeMultiple(argument);
                    break;
                case COS:
                    append('c');
                    writeMultiple(argument);
                    break;
                default:
                    break;
            }
        }

        private void writeMultiple(int argument) {
            append('(');
            if (argument == -1) {
                append('-');
            } else if (argument != 1) {
                writeNumber(argument);
            }
            append('x');
            append(')');
        }

        private void writeNumber(long number) {
            if (number < 0) {
                append('-');
            }
            long size = Math.abs(number);
            boolean begun = false;
            for (long digit = GREATEST_DIGIT; digit > 0; digit /= 10) {
                begun = begun || size >= digit || digit == 1;
                if (begun) {
                    append((char) ('0' + size / digit % 10));
                }
            }
        }

        private void append(char character) {
            if (length < MOST_WRITTEN) {
                characters[length] = character;
                length++;
            }
        }
    }

    /** Products of sums; small sums keep far inside a long and inside the bounds. */
    private static final class Product {
        private Product() {
        }

        static boolean canBeTold(Sum a, Sum b) {
            for (int i = 0; i < a.size(); i++) {
                for (int k = 0; k < b.size(); k++) {
                    if (!canMeet(a.kindAt(i), b.kindAt(k))) {
                        return false;
                    }
                }
            }
            return true;
        }

        private static boolean canMeet(int kind, int other) {
            return kind == other || kind == PLAIN || other == PLAIN
                    || isWave(kind) && isWave(other);
        }

        private static boolean isWave(int kind) {
            return kind == SIN || kind == COS;
        }

        static void putProduct(Sum to, Sum a, Sum b) {
            for (int i = 0; i < a.size(); i++) {
                for (int k = 0; k < b.size(); k++) {
                    if (isWave(a.kindAt(i)) && isWave(b.kindAt(k))) {
                        putWaves(to, a, i, b, k);
                    } else {
                        putJoined(to, a, i, b, k);
                    }
                }
            }
        }

        // A plain term has argument 0 and the least kind, so this serves it, too.
        private static void putJoined(Sum to, Sum a, int i, Sum b, int k) {
            to.put(Math.max(a.kindAt(i), b.kindAt(k)), a.argumentAt(i) + b.argumentAt(k),
                    a.powerAt(i) + b.powerAt(k), a.topAt(i) * b.topAt(k),
                    a.bottomAt(i) * b.bottomAt(k));
        }

        private static void putWaves(Sum to, Sum a, int i, Sum b, int k) {
            int first = a.kindAt(i);
            int second = b.kindAt(k);
            int kind = first == second ? COS : SIN;
            int power = a.powerAt(i) + b.powerAt(k);
            long top = a.topAt(i) * b.topAt(k);
            long bottom = 2 * a.bottomAt(i) * b.bottomAt(k);
            boolean sumBelow = first == SIN && second == SIN;
            boolean differenceBelow = first == COS && second == SIN;
            to.put(kind, a.argumentAt(i) + b.argumentAt(k), power, sumBelow ? -top : top, bottom);
            to.put(kind, a.argumentAt(i) - b.argumentAt(k), power, differenceBelow ? -top : top,
                    bottom);
        }
    }

    /** Derivatives and integrals, term by term. */
    private static final class Calculus {
        private Calculus() {
        }

        // exp, sin and cos turn into these when they are derived or integrated.
        private static int turned(int kind) {
            return kind == SIN ? COS : kind == COS ? SIN : kind;
        }

        private static int signDerived(int kind) {
            return kind == COS ? -1 : 1;
        }

        private static int signIntegrated(int kind) {
            return kind == SIN ? -1 : 1;
        }

        static void putDerivative(Sum to, Sum a) {
            for (int i = 0; i < a.size(); i++) {
                int kind = a.kindAt(i);
                int argument = a.argumentAt(i);
                int power = a.powerAt(i);
                long top = a.topAt(i);
                long bottom = a.bottomAt(i);
                to.put(kind, argument, power - 1, top * power, bottom);
                if (kind == LOG) {
                    to.put(LOG, argument - 1, power - 1, top * argument, bottom);
                } else if (kind != PLAIN) {
                    to.put(turned(kind), argument, power, top * argument * signDerived(kind),
                            bottom);
                }
            }
        }

        static void putIntegral(Sum done, Sum left, Sum a) {
            for (int i = 0; i < a.size(); i++) {
                int kind = a.kindAt(i);
                int argument = a.argumentAt(i);
                int power = a.powerAt(i);
                long top = a.topAt(i);
                long bottom = a.bottomAt(i);
                if (kind == PLAIN || kind == LOG) {
                    integrateLog(done, argument, power, top, bottom);
                } else if (power >= 0) {
                    lowerPower(done, kind, argument, power, top, bottom);
                } else {
                    raisePower(done, left, kind, argument, power, top, bottom);
                }
            }
        }

        // A plain power is one with a logarithm to the 0.
        private static void integrateLog(Sum done, int exponent, int power, long top, long bottom) {
            if (power == -1) {
                done.put(LOG, exponent + 1, 0, top, bottom * (exponent + 1));
                return;
            }
            long nextTop = top;
            long nextBottom = bottom;
            for (int k = exponent; k >= 0; k--) {
                nextBottom *= power + 1;
                done.put(LOG, k, power + 1, nextTop, nextBottom);
                nextTop *= -k;
            }
        }

        // By parts, the function being integrated and the power derived, until it is gone.
        private static void lowerPower(Sum done, int kind, int argument, int power, long top,
                long bottom) {
            int nextKind = kind;
            long nextTop = top;
            long nextBottom = bottom;
            for (int p = power; p >= 0; p--) {
                nextTop *= signIntegrated(nextKind);
                nextBottom *= argument;
                nextKind = turned(nextKind);
                done.put(nextKind, argument, p, nextTop, nextBottom);
                nextTop *= -p;
            }
        }

        // By parts the other way, until 1 / x is there, where no such terms go on.
        private static void raisePower(Sum done, Sum left, int kind, int argument, int power,
                long top, long bottom) {
            int nextKind = kind;
            long nextTop = top;
            long nextBottom = bottom;
            for (int p = power; p < -1; p++) {
                nextBottom *= p + 1;
                done.put(nextKind, argument, p + 1, nextTop, nextBottom);
                nextTop *= -argument * signDerived(nextKind);
                nextKind = turned(nextKind);
            }
            left.put(nextKind, argument, -1, nextTop, nextBottom);
        }
    }
}
