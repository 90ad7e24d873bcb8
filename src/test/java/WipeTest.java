/** Promise 3. */
public final class WipeTest {
    public static void main(String[] args) {
        Checks checks = new Checks();
        BindingLisp x = new BindingLisp();
        checks.same("wipe() of an empty draft", x.wipe(), 0);
        Checks.append(x, "ADD 1 2");
        checks.same("wipe() of three tokens", x.wipe(), 3);
        checks.same("wipe() again", x.wipe(), 0);
        checks.same("run() of the wiped draft", x.run(), BindingLisp.SYNTAX);
        wipeLeavesTheRest(checks);
        checks.end();
    }

    private static void wipeLeavesTheRest(Checks checks) {
        BindingLisp x = new BindingLisp();
        checks.define(x, 1, 0, "ADD a 1");
        x.set(2, 7);
        checks.gives(x, "LOCAL b 3", 3);
        checks.same("wipe() after the run", x.wipe(), 2);
        checks.same("result() after wipe", x.result(), 3);
        checks.same("steps() after wipe", x.steps(), 2);
        checks.globalIs(x, "wipe", 2, 7);
        checks.localIs(x, "wipe", 0, 1, 3);
        checks.gives(x, "NAMED 1 4", 5);
    }
}
