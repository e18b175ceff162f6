import java.util.ArrayList;
import java.util.List;

/** What each call leaves for the calls after it: all as it was, but what the document says. */
public final class LeavesTest {
    private static final String[] PARTS = {"line", "place", "output", "slot 0", "slot 1", "slot 2", "slot 3",
        "slot 4", "slot 5", "slot 6", "slot 7"};
    private static final String FAULTY = "x+l^10";
    private static final int FAULTY_PLACE = 4;

    private interface Call {
        Object on(AntiDesk desk);
    }

    public static void main(String[] args) {
        typing();
        reading();
        looking();
        adding();
        multiplying();
        deriving();
        integrating();
        nothingIsShared();
        lineStays();
        lastOfAll();
        Check.finish();
    }

    /** Slots 0 to 3 with sums, an output, a line, and the place of a fault. */
    private static AntiDesk desk(String line) {
        AntiDesk desk = Check.desk("x^-2e(x)+3", "2x^2-1", "7s(x)", "5");
        desk.write(2);
        Check.read(desk, 7, FAULTY);
        Check.equal("place", desk.place(), FAULTY_PLACE);
        desk.erase();
        Check.type(desk, line);
        return desk;
    }

    private static void changes(String what, AntiDesk desk, Call call, Object answer, String... due) {
        String[] before = State.of(desk).split(", ");
        Check.equal(what, call.on(desk), answer);
        String[] after = State.of(desk).split(", ");
        List<String> changed = new ArrayList<>();
        for (int i = 0; i < PARTS.length; i++) {
            if (!before[i].equals(after[i])) {
                changed.add(PARTS[i]);
            }
        }
        Check.equal(what + ": changes", changed, List.of(due));
    }

    private static void typing() {
        changes("type", desk("x"), d -> d.type('+', '1', 0, 0, 0), 3, "line");
        changes("type nothing", desk("x"), d -> d.type(0, 0, 0, 0, 0), 1);
        changes("erase", desk("x+1"), d -> d.erase(), 3, "line");
        changes("erase nothing", desk(""), d -> d.erase(), 0);
    }

    private static void reading() {
        changes("read", desk("5x+c(x)"), d -> d.read(4), 2, "place", "slot 4");
        changes("read over a sum", desk("x"), d -> d.read(0), 1, "place", "slot 0");
        changes("read nothing over a sum", desk("0"), d -> d.read(1), 0, "place", "slot 1");
        changes("read what is there", desk("2x^2-1"), d -> d.read(1), 2, "place");
        changes("SIGN", desk("x+y"), d -> d.read(0), AntiDesk.SIGN, "place");
        changes("RANGE", desk("1/0"), d -> d.read(0), AntiDesk.RANGE, "place");
        changes("RANGE at the same place", desk(FAULTY), d -> d.read(0), AntiDesk.RANGE);
        changes("FULL", desk("1/997+1/991"), d -> d.read(0), AntiDesk.FULL, "place");
    }

    private static void looking() {
        changes("place", desk("x"), d -> d.place(), FAULTY_PLACE);
        changes("write", desk("x"), d -> d.write(1), 6, "output");
        changes("write what was written", desk("x"), d -> d.write(2), 5);
        changes("output", desk("x"), d -> d.output(0), '7');
        changes("no output", desk("x"), d -> d.output(5), ' ');
        changes("same", desk("x"), d -> d.same(0, 1), false);
        changes("terms", desk("x"), d -> d.terms(0), 2);
        changes("term", desk("x"), d -> d.term(0, 0, 0), 3L);
        changes("no term", desk("x"), d -> d.term(0, 2, 0), 0L);
    }

    private static void adding() {
        changes("add", desk("x"), d -> d.add(5, 0, 1, 2, 3), 3, "slot 5");
        changes("add to the first", desk("x"), d -> d.add(0, 0, 1, 3, 1), 2, "slot 0");
        changes("add to the second", desk("x"), d -> d.add(1, 0, 1, -3, 1), 3, "slot 1");
        changes("add to both", desk("x"), d -> d.add(0, 0, 0, 1, 2), 2, "slot 0");
        changes("add nothing", desk("x"), d -> d.add(0, 0, 1, 0, 1), 2);
    }

    private static void multiplying() {
        changes("times", desk("x"), d -> d.times(5, 1, 2), 2, "slot 5");
        changes("times into the first", desk("x"), d -> d.times(1, 1, 2), 2, "slot 1");
        changes("times into the second", desk("x"), d -> d.times(2, 1, 2), 2, "slot 2");
        changes("times itself", desk("x"), d -> d.times(0, 0, 0), 3, "slot 0");
        changes("times KIND", desk("x"), d -> d.times(1, 0, 2), AntiDesk.KIND);
    }

    private static void deriving() {
        changes("derive", desk("x"), d -> d.derive(5, 0), 2, "slot 5");
        changes("derive into itself", desk("x"), d -> d.derive(0, 0), 2, "slot 0");
        changes("derive to nothing", desk("x"), d -> d.derive(1, 3), 0, "slot 1");
    }

    private static void integrating() {
        changes("integrate", desk("x"), d -> d.integrate(5, 6, 0), 1, "slot 5", "slot 6");
        changes("integrate into itself", desk("x"), d -> d.integrate(0, 6, 0), 1, "slot 0", "slot 6");
        changes("integrate, rest into itself", desk("x"), d -> d.integrate(5, 0, 0), 1, "slot 0", "slot 5");
        changes("integrate into one", desk("x"), d -> d.integrate(5, 5, 0), 1, "slot 5");
        changes("integrate all in one", desk("x"), d -> d.integrate(0, 0, 0), 1, "slot 0");
        changes("integrate, no rest", desk("x"), d -> d.integrate(5, 1, 2), 0, "slot 1", "slot 5");
    }

    /** A slot keeps what it got when the slots that it came from change. */
    private static void nothingIsShared() {
        AntiDesk desk = desk("x");
        desk.add(5, 0, 7, 1, 1);
        changes("the source changes", desk, d -> d.derive(0, 0), 2, "slot 0");
        changes("the copy changes", desk, d -> d.derive(5, 5), 2, "slot 5");
        Check.equal("both came from one", desk.same(0, 5), true);
    }

    /** The line is still there for the next read, whatever was called between. */
    private static void lineStays() {
        AntiDesk desk = desk("7x-2");
        desk.read(0);
        desk.write(1);
        desk.add(3, 0, 1, 1, 1);
        desk.times(4, 0, 1);
        desk.derive(5, 0);
        desk.integrate(5, 6, 0);
        Check.equal("read again", desk.read(7), 2);
        Check.equal("the same sum", desk.same(0, 7), true);
        Check.equal("more behind it", desk.type('x', 0, 0, 0, 0), 5);
        Check.equal("read once more", desk.read(7), 1);
        Check.equal("written", Check.written(desk, 7), "5x");
    }

    /** "An object is used for at most 512 calls": the last of them answers like the first. */
    private static void lastOfAll() {
        AntiDesk desk = new AntiDesk();
        desk.type('x', 0, 0, 0, 0);
        for (int calls = 1; calls < 507; calls += 2) {
            Check.equal("read", desk.read(0), 1);
            Check.equal("add", desk.add(1, 1, 0, 1, 1), 1);
        }
        Check.equal("call 508", desk.term(1, 0, 0), 253L);
        Check.equal("call 509", desk.derive(2, 1), 1);
        Check.equal("call 510", desk.integrate(3, 4, 0), 0);
        Check.equal("call 511", desk.write(3), 6);
        Check.equal("call 512", desk.output(5), '2');
    }
}
