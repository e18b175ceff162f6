import java.util.Arrays;
import java.util.Map;

/** Long runs of calls, the same ones every time, compared with the model: promises 2 to 14. */
public final class RandomRunsTest {
    private static final int RUNS = 1000;

    // The document promises nothing about an object after 512 calls.
    private static final int CALLS = 512;
    private static final int CALLS_OF_A_STEP = 50;

    private final Dice dice;
    private final AntiDesk desk = new AntiDesk();
    private final Model[] slots = new Model[8];
    private final int run;
    private final int[] answers = new int[6];
    private String line = "";
    private int place = AntiDesk.NONE;
    private int calls = 0;

    private RandomRunsTest(int run) {
        this.run = run;
        dice = new Dice(run);
        Arrays.setAll(slots, i -> new Model());
    }

    public static void main(String[] args) {
        int[] seen = new int[6];
        for (int run = 0; run < RUNS; run++) {
            RandomRunsTest test = new RandomRunsTest(run);
            while (test.calls + CALLS_OF_A_STEP < CALLS) {
                test.step();
            }
            for (int i = 0; i < seen.length; i++) {
                seen[i] += test.answers[i];
            }
        }
        // Runs that never met some refusal would tell nothing about it.
        for (int i : new int[] {0, 2, 3, 4, 5}) {
            Check.equal("answers of kind -" + i + " were met", seen[i] > 100, true);
        }
        Check.finish();
    }

    private int slot() {
        if (dice.oneIn(60)) {
            return dice.oneIn(2) ? -1 : 8;
        }
        // Few slots are used most, so that their sums grow.
        return dice.below(dice.oneIn(3) ? 8 : 2);
    }

    private static boolean isSlot(int slot) {
        return slot >= 0 && slot < 8;
    }

    private void step() {
        calls += 2;
        switch (dice.below(10)) {
            case 0, 1, 2 -> readLine();
            case 3, 4, 5 -> addSums();
            case 6 -> multiply();
            case 7 -> deriveSum();
            case 8 -> integrateSum();
            default -> look();
        }
    }

    private void readLine() {
        calls += 7;
        if (!dice.oneIn(20)) {
            Check.equal(run + ": erase", desk.erase(), line.length());
            line = "";
        }
        String more = Lines.line(dice);
        more = more.substring(0, Math.min(more.length(), 100 - line.length()));
        Check.type(desk, more);
        line += more;
        int slot = slot();
        String what = run + ": read " + line;
        if (!isSlot(slot)) {
            Check.throwsArgument(what, () -> desk.read(slot));
            return;
        }
        place = AntiDesk.NONE;
        int due;
        try {
            Model sum = Model.read(line);
            slots[slot] = sum;
            due = sum.parts.size();
        } catch (Model.Refused e) {
            due = e.why;
            place = e.place;
        }
        due(what, desk.read(slot), due);
        Check.equal(what + ": place", desk.place(), place);
        compare(what, slot);
    }

    private void addSums() {
        // Half of them gather in slot 2, until it is full.
        boolean gather = dice.oneIn(2);
        int to = gather ? 2 : slot();
        int a = gather ? 2 : slot();
        int b = slot();
        int p = dice.oneIn(3) ? dice.below(205) - 102 : dice.oneIn(2) ? 1 : -1;
        int q = dice.oneIn(2) ? 1 : dice.below(8);
        String what = run + ": add " + to + " " + a + " " + b + " " + p + " " + q;
        if (!isSlot(to) || !isSlot(a) || !isSlot(b) || Math.abs(p) > 100 || q < 1 || q > 6) {
            Check.throwsArgument(what, () -> desk.add(to, a, b, p, q));
        } else if (Math.abs(p) != q && !slots[b].isSmall()) {
            Check.throwsState(what, () -> desk.add(to, a, b, p, q));
        } else {
            due(what, desk.add(to, a, b, p, q), settle(to, slots[a].plus(slots[b], p, q)));
        }
        compare(what, to);
    }

    private void multiply() {
        int to = slot();
        int a = slot();
        int b = slot();
        String what = run + ": times " + to + " " + a + " " + b;
        if (!isSlot(to) || !isSlot(a) || !isSlot(b)) {
            Check.throwsArgument(what, () -> desk.times(to, a, b));
        } else if (!slots[a].isSmall() || !slots[b].isSmall()) {
            Check.throwsState(what, () -> desk.times(to, a, b));
        } else {
            int due;
            try {
                due = settle(to, slots[a].times(slots[b]));
            } catch (Model.Refused e) {
                due = e.why;
            }
            due(what, desk.times(to, a, b), due);
        }
        compare(what, to);
    }

    private void deriveSum() {
        int to = slot();
        int a = dice.oneIn(2) ? 2 : slot();
        String what = run + ": derive " + to + " " + a;
        if (!isSlot(to) || !isSlot(a)) {
            Check.throwsArgument(what, () -> desk.derive(to, a));
        } else {
            due(what, desk.derive(to, a), settle(to, slots[a].derived()));
        }
        compare(what, to);
    }

    private void integrateSum() {
        int to = slot();
        int rest = slot();
        int a = slot();
        String what = run + ": integrate " + to + " " + rest + " " + a;
        if (!isSlot(to) || !isSlot(rest) || !isSlot(a)) {
            Check.throwsArgument(what, () -> desk.integrate(to, rest, a));
        } else if (!slots[a].isSmall()) {
            Check.throwsState(what, () -> desk.integrate(to, rest, a));
        } else {
            Model left = new Model();
            Model done = Model.integral(slots[a], left);
            int due = settle(to, done);
            due(what, desk.integrate(to, rest, a), due == AntiDesk.FULL ? due : settle(rest, left));
        }
        compare(what, to);
        compare(what, rest);
    }

    private void look() {
        int a = dice.below(8);
        int b = dice.below(8);
        calls += 3 + slots[a].parts.size();
        Check.equal(run + ": same", desk.same(a, b), slots[a].parts.equals(slots[b].parts));
        Check.equal(run + ": terms", desk.terms(a), slots[a].parts.size());
        int i = 0;
        for (Map.Entry<Model.Shape, Model.Ratio> e : slots[a].parts.entrySet()) {
            long[] due = {e.getValue().top().longValue(), e.getValue().bottom().longValue(), e.getKey().kind(),
                e.getKey().argument(), e.getKey().power()};
            int what = dice.below(5);
            Check.equal(run + ": term " + i + " " + what, desk.term(a, i, what), due[what]);
            i++;
        }
        Check.equal(run + ": no term", desk.term(a, i, dice.below(5)), 0L);
    }

    private int settle(int to, Model sum) {
        if (!sum.fits()) {
            return AntiDesk.FULL;
        }
        slots[to] = sum;
        return sum.parts.size();
    }

    private void due(String what, int got, int due) {
        Check.equal(what, got, due);
        answers[Math.max(0, -due)]++;
    }

    private void compare(String what, int slot) {
        if (!isSlot(slot)) {
            return;
        }
        String due = slots[slot].written();
        boolean whole = dice.oneIn(10) && due.length() + CALLS_OF_A_STEP + calls < CALLS;
        calls += whole ? 1 + due.length() : 1;
        if (whole) {
            Check.equal(what + ": slot " + slot, Check.written(desk, slot), due);
        } else {
            Check.equal(what + ": slot " + slot, desk.write(slot), due.length());
        }
    }
}
