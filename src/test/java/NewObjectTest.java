/** Promise 1: empty slots, an empty line and output. */
public final class NewObjectTest {
    public static void main(String[] args) {
        AntiDesk desk = new AntiDesk();
        for (int k = -1; k < 3; k++) {
            Check.equal("output " + k, desk.output(k), ' ');
        }
        Check.equal("place", desk.place(), AntiDesk.NONE);
        Check.equal("erase", desk.erase(), 0);
        for (int slot = 0; slot < 8; slot++) {
            Check.equal("terms of " + slot, desk.terms(slot), 0);
            Check.equal("a term of " + slot, desk.term(slot, 0, 1), 0L);
            Check.equal("same as " + slot, desk.same(0, slot), true);
            Check.equal("written " + slot, Check.written(desk, slot), "0");
        }
        twoObjectsShareNothing();
        Check.finish();
    }

    private static void twoObjectsShareNothing() {
        AntiDesk one = Check.desk("x+s(x)");
        one.write(0);
        AntiDesk other = new AntiDesk();
        Check.equal("the other's line", other.erase(), 0);
        Check.equal("the other's slot", other.terms(0), 0);
        Check.equal("the other's output", other.output(0), ' ');
        Check.equal("the one's line", one.erase(), 6);
    }
}
