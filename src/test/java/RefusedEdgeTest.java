/** What is refused or throws changes nothing, and the first exception wins. */
public final class RefusedEdgeTest {
    private static final String NINE = "x^4+x^3+x^2+x+1+x^-1+x^-2+x^-3+x^-4";
    private static final String LINE = "x+l^10";
    private static final int LINE_PLACE = 4;

    private interface Call {
        Object on(AntiDesk desk);
    }

    public static void main(String[] args) {
        Check.sentence("where some TERM that comes is not as said above ... it is refused (FULL), and nothing changes",
                RefusedEdgeTest::notAsSaid);
        Check.sentence("or beyond BOUNDS ... it is refused (FULL), and nothing changes", RefusedEdgeTest::beyondBounds);
        Check.sentence("or there are more than 40, it is refused (FULL), and nothing changes",
                RefusedEdgeTest::moreThanForty);
        Check.sentence("FULL, first of all, if the numbers of their TERMS, multiplied, are above 100",
                RefusedEdgeTest::tooManyProducts);
        Check.sentence("KIND, if a logarithm would be multiplied with an exp", RefusedEdgeTest::kinds);
        Check.sentence("A SLOT gets THE LINE's SUM ... or SIGN ... RANGE ... FULL", RefusedEdgeTest::badLines);
        Check.sentence("IllegalArgument is thrown where a number is none of those told here",
                RefusedEdgeTest::arguments);
        Check.sentence("What throws changes nothing", RefusedEdgeTest::argumentsChangeNothing);
        Check.sentence("What throws changes nothing", RefusedEdgeTest::statesChangeNothing);
        Check.sentence("where a call lists more than one exception, the first one wins", RefusedEdgeTest::firstWins);
        Check.finish();
    }

    /** A desk with these sums, an output, and a line whose fault has a place. */
    private static AntiDesk desk(String... sums) {
        AntiDesk desk = Check.desk(sums);
        desk.write(0);
        Check.read(desk, 7, LINE);
        return desk;
    }

    private static Object answer(AntiDesk desk, Call call) {
        try {
            return call.on(desk);
        } catch (RuntimeException e) {
            return e.getClass().getSimpleName();
        }
    }

    private static void changesNothing(String what, AntiDesk desk, Call call, Object due) {
        String before = State.of(desk);
        Check.equal(what, answer(desk, call), due);
        Check.equal(what + ": state", State.of(desk), before);
        Check.equal(what + ": line", desk.read(7), AntiDesk.RANGE);
        Check.equal(what + ": its place", desk.place(), LINE_PLACE);
        Check.equal(what + ": its end", desk.erase(), LINE.length());
    }

    private static void isFull(String what, AntiDesk desk, Call call) {
        changesNothing(what, desk, call, AntiDesk.FULL);
    }

    private static void notAsSaid() {
        isFull("derive", desk("7x", "x^-12"), d -> d.derive(0, 1));
        isFull("derive into itself", desk("7x", "x^-12"), d -> d.derive(1, 1));
        isFull("derive with others", desk("7x", "x^2+x^-12e(x)+1+l"), d -> d.derive(2, 1));
    }

    private static void beyondBounds() {
        isFull("add", desk("7x", "x+1/177", "x+1/565"), d -> d.add(0, 1, 2, 1, 1));
        isFull("add to the first", desk("7x", "x+1/177", "x+1/565"), d -> d.add(1, 1, 2, 1, 1));
        isFull("add to the second", desk("7x", "x+1/177", "x+1/565"), d -> d.add(2, 1, 2, -1, 1));
        isFull("derive", desk("7x", "1/177xe(x)+1/565e(x)"), d -> d.derive(0, 1));
        isFull("derive into itself", desk("7x", "1/177xe(x)+1/565e(x)"), d -> d.derive(1, 1));
    }

    private static void moreThanForty() {
        String six = "1+l+l^2+l^3+x^4+xl";
        isFull("times", desk("7x", NINE, six), d -> d.times(0, 1, 2));
        isFull("times into a", desk("7x", NINE, six), d -> d.times(1, 1, 2));
        isFull("times into b", desk("7x", NINE, six), d -> d.times(2, 1, 2));
        isFull("integrate", manyIntegrals(), d -> d.integrate(0, 2, 1));
        isFull("integrate into itself", manyIntegrals(), d -> d.integrate(1, 2, 1));
        isFull("integrate, the rest into itself", manyIntegrals(), d -> d.integrate(0, 1, 1));
        isFull("integrate, both in one", manyIntegrals(), d -> d.integrate(2, 2, 1));
    }

    // Slot 1 has nine terms, whose integrals have 41 and a rest.
    private static AntiDesk manyIntegrals() {
        AntiDesk desk = desk("7x", "x^4e(x)+x^4e(2x)+x^4e(3x)+x^4s(x)+x^4c(2x)+x^-1c(x)", "5+l");
        Check.gather(desk, 1, 3, "x^4e(-x)+x^4e(-2x)+x^4e(-3x)+1");
        Check.read(desk, 7, LINE);
        return desk;
    }

    private static void tooManyProducts() {
        String six = "x+1+x^-1+xl+l+x^-1l";
        isFull("times", seventeen(six), d -> d.times(0, 1, 2));
        isFull("times into a", seventeen(six), d -> d.times(1, 2, 1));
        isFull("times, before KIND", seventeen("x+1+x^-1+xl+l+s(x)"), d -> d.times(0, 1, 2));
    }

    private static AntiDesk seventeen(String other) {
        AntiDesk desk = desk("7x", NINE, other);
        Check.gather(desk, 1, 3, "x^4l+x^3l+x^2l+xl+l+x^-1l+x^-2l+x^-3l");
        Check.read(desk, 7, LINE);
        return desk;
    }

    private static void kinds() {
        changesNothing("l by e", desk("7x", "x+l", "1+e(x)"), d -> d.times(0, 1, 2), AntiDesk.KIND);
        changesNothing("s by e", desk("7x", "x+s(x)", "1+e(x)"), d -> d.times(1, 1, 2), AntiDesk.KIND);
        changesNothing("c by l", desk("7x", "x+c(x)", "1+l"), d -> d.times(2, 1, 2), AntiDesk.KIND);
    }

    private static void badLines() {
        keepsSlots("x+", AntiDesk.SIGN);
        keepsSlots("x+y", AntiDesk.SIGN);
        keepsSlots("x+1/0", AntiDesk.RANGE);
        keepsSlots("x+l^10", AntiDesk.RANGE);
        keepsSlots("x+1/177+1/565", AntiDesk.FULL);
    }

    // The place alone is another one.
    private static void keepsSlots(String line, int due) {
        AntiDesk desk = Check.desk("7x+1", "l");
        desk.write(0);
        desk.erase();
        Check.type(desk, line);
        String before = State.of(desk).replaceAll("place -?\\d+", "");
        Check.equal(line, desk.read(1), due);
        Check.equal(line + ": state", State.of(desk).replaceAll("place -?\\d+", ""), before);
        Check.equal(line + ": again", desk.read(0), due);
        Check.equal(line + ": its end", desk.erase(), line.length());
    }

    private static void arguments() {
        AntiDesk desk = Check.desk("x");
        Check.throwsArgument("p 101", () -> desk.add(0, 0, 0, 101, 1));
        Check.throwsArgument("p -101", () -> desk.add(0, 0, 0, -101, 1));
        Check.throwsArgument("q 0", () -> desk.add(0, 0, 0, 1, 0));
        Check.throwsArgument("q 7", () -> desk.add(0, 0, 0, 1, 7));
        Check.throwsArgument("what -1", () -> desk.term(0, 0, -1));
        Check.throwsArgument("what 5", () -> desk.term(0, 0, 5));
        for (int slot : new int[] {-1, 8}) {
            Check.throwsArgument("slot " + slot, () -> desk.read(slot));
        }
        Check.equal("any k", Check.thrownBy(() -> desk.output(-1)), "nothing");
        Check.equal("any i", Check.thrownBy(() -> desk.term(0, -1, 0)), "nothing");
        Check.equal("any numbers", Check.thrownBy(() -> desk.type(-1, Integer.MIN_VALUE, 0, 1, 255)), "nothing");
    }

    private static void argumentThrown(String what, Call call) {
        changesNothing(what, desk("7x", "x^2+1", "e(x)"), call, "IllegalArgumentException");
    }

    private static void argumentsChangeNothing() {
        argumentThrown("read 8", d -> d.read(8));
        argumentThrown("read -1", d -> d.read(-1));
        argumentThrown("write 8", d -> d.write(8));
        argumentThrown("write -1", d -> d.write(-1));
        argumentThrown("add to 8", d -> d.add(8, 1, 2, 1, 1));
        argumentThrown("add 8", d -> d.add(0, 8, 2, 1, 1));
        argumentThrown("add b 8", d -> d.add(0, 1, 8, 1, 1));
        argumentThrown("add p 101", d -> d.add(0, 1, 2, 101, 1));
        argumentThrown("add q 7", d -> d.add(0, 1, 2, 1, 7));
        argumentThrown("add q 0", d -> d.add(0, 1, 2, 1, 0));
        argumentThrown("times to 8", d -> d.times(8, 1, 2));
        argumentThrown("times 8", d -> d.times(0, 8, 2));
        argumentThrown("times b 8", d -> d.times(0, 1, 8));
        argumentThrown("derive to 8", d -> d.derive(8, 1));
        argumentThrown("derive 8", d -> d.derive(0, 8));
        argumentThrown("integrate to 8", d -> d.integrate(8, 0, 1));
        argumentThrown("integrate rest 8", d -> d.integrate(0, 8, 1));
        argumentThrown("integrate 8", d -> d.integrate(0, 2, 8));
        argumentThrown("same 8", d -> d.same(0, 8));
        argumentThrown("terms 8", d -> d.terms(8));
        argumentThrown("term 8", d -> d.term(8, 0, 0));
        argumentThrown("term, what 5", d -> d.term(0, 0, 5));
    }

    private static void stateThrown(String what, Call call) {
        changesNothing(what, desk("7x", "x^5+1", "e(x)"), call, "IllegalStateException");
    }

    private static void statesChangeNothing() {
        stateThrown("add", d -> d.add(0, 2, 1, 1, 2));
        stateThrown("add to b", d -> d.add(1, 2, 1, 0, 1));
        stateThrown("times", d -> d.times(0, 2, 1));
        stateThrown("times, the other way", d -> d.times(0, 1, 2));
        stateThrown("integrate", d -> d.integrate(0, 2, 1));
        stateThrown("integrate into itself", d -> d.integrate(1, 1, 1));
        AntiDesk desk = Check.desk("7x", "x^5+1");
        desk.write(0);
        String ninety = "x+" + " ".repeat(90);
        Check.read(desk, 7, ninety);
        String before = State.of(desk);
        Check.throwsState("type", () -> desk.type(0x31313131, 0x31313131, 0x31000000, 0, 0));
        Check.equal("type: state", State.of(desk), before);
        Check.equal("type: line", desk.read(7), AntiDesk.SIGN);
        Check.equal("type: its end", desk.place(), ninety.length());
        desk.type(0x33323100, 0, 0, 0, 0);
        Check.equal("type: no character came", desk.read(7), 2);
        Check.equal("type: only the later ones", Check.written(desk, 7), "x+321");
    }

    private static void firstWins() {
        AntiDesk desk = Check.desk("x", "101");
        Check.throwsState("add, not small", () -> desk.add(0, 0, 1, 2, 1));
        Check.throwsArgument("add, to", () -> desk.add(8, 0, 1, 2, 1));
        Check.throwsArgument("add, a", () -> desk.add(0, 8, 1, 2, 1));
        Check.throwsArgument("add, p", () -> desk.add(0, 0, 1, 101, 1));
        Check.throwsArgument("add, p below", () -> desk.add(0, 0, 1, -101, 1));
        Check.throwsArgument("add, q", () -> desk.add(0, 0, 1, 2, 7));
        Check.throwsArgument("add, q 0", () -> desk.add(0, 0, 1, 2, 0));
        Check.throwsState("times, not small", () -> desk.times(0, 1, 1));
        Check.throwsArgument("times, to", () -> desk.times(8, 1, 1));
        Check.throwsArgument("times, a", () -> desk.times(0, 8, 1));
        Check.throwsArgument("times, b", () -> desk.times(0, 1, 8));
        Check.throwsState("integrate, not small", () -> desk.integrate(0, 0, 1));
        Check.throwsArgument("integrate, to", () -> desk.integrate(8, 0, 1));
        Check.throwsArgument("integrate, rest", () -> desk.integrate(0, 8, 1));
    }
}
