/** Promise 4. */
public final class SpecialTest {
    public static void main(String[] args) {
        Checks checks = new Checks();
        for (int s = 0; s < 8; s++) {
            onAndOff(checks, s);
        }
        clearsAll(checks, true);
        clearsAll(checks, false);
        leavesTheRest(checks);
        othersStay(checks);
        noSymbol(checks);
        checks.end();
    }

    /** A function sees the caller's binding of s only if s is special. */
    private static void onAndOff(Checks checks, int s) {
        BindingLisp x = new BindingLisp();
        int other = (s + 3) % 8;
        String caller = "LET " + s + " 10 NAMED 0 1";
        checks.yes("special(" + s + ", true)", x.special(s, true));
        checks.define(x, 0, other, "VAR " + s);
        checks.gives(x, caller, 10);
        checks.globalIs(x, caller, s, BindingLisp.NOTHING);
        checks.yes("special(" + s + ", false)", x.special(s, false));
        checks.define(x, 0, other, "VAR " + s);
        checks.ends(x, caller, BindingLisp.VOID);
        x.set(s, 4);
        checks.gives(x, caller, 4);
    }

    /** Also when the symbol was already what it is made. */
    private static void clearsAll(Checks checks, boolean on) {
        BindingLisp x = new BindingLisp();
        checks.yes("special(3, on)", x.special(3, on));
        for (int s = 0; s < 8; s++) {
            x.set(s, s);
            for (int b = 0; b < 3; b++) {
                checks.gives(x, "BUFFER " + b + " LOCAL " + s + " 9", 9);
            }
        }
        for (int k = 0; k < 4; k++) {
            checks.define(x, k, 0, "a");
        }
        checks.yes("special(3, on) again", x.special(3, on));
        for (int s = 0; s < 8; s++) {
            checks.globalIs(x, "special", s, BindingLisp.NOTHING);
            for (int b = 0; b < 3; b++) {
                checks.noLocal(x, "special", b, s);
                checks.no("kill after special", x.kill(b, s));
            }
        }
        for (int k = 0; k < 4; k++) {
            checks.ends(x, "NAMED " + k + " 1", BindingLisp.MISSING);
        }
    }

    private static void leavesTheRest(Checks checks) {
        BindingLisp x = new BindingLisp();
        checks.gives(x, "ADD 1 2", 3);
        checks.yes("special(0, true)", x.special(0, true));
        checks.same("result() after special", x.result(), 3);
        checks.same("steps() after special", x.steps(), 3);
        checks.same("run() after special", x.run(), BindingLisp.OK);
        checks.same("wipe() after special", x.wipe(), 3);
    }

    private static void othersStay(Checks checks) {
        BindingLisp x = new BindingLisp();
        x.special(0, true);
        x.special(1, true);
        x.special(1, false);
        checks.define(x, 0, 7, "ADD a b");
        x.set(0, 1);
        x.set(1, 2);
        checks.gives(x, "LET a 10 LET b 20 NAMED 0 0", 12);
    }

    private static void noSymbol(Checks checks) {
        BindingLisp x = new BindingLisp();
        x.set(0, 5);
        checks.gives(x, "LOCAL b 3", 3);
        checks.define(x, 2, 0, "a");
        int[] wrong = {-1, 8, 9, Integer.MAX_VALUE, Integer.MIN_VALUE};
        for (int s : wrong) {
            checks.no("special(" + s + ", true)", x.special(s, true));
            checks.no("special(" + s + ", false)", x.special(s, false));
        }
        checks.globalIs(x, "special of no symbol", 0, 5);
        checks.localIs(x, "special of no symbol", 0, 1, 3);
        checks.gives(x, "NAMED 2 6", 6);
    }
}
