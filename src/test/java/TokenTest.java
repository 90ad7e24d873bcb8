/** Promise 2. */
public final class TokenTest {
    /** How many values each kind may have; 0 where the value is not looked at. */
    private static final int[] BOUNDS = {0, 8, 8, 8, 8, 0, 4, 0, 0, 0, 0, 0, 4, 4, 0, 0, 3, 8, 0};

    public static void main(String[] args) {
        Checks checks = new Checks();
        BindingLisp x = new BindingLisp();
        for (int kind = 0; kind < BOUNDS.length; kind++) {
            if (BOUNDS[kind] == 0) {
                anyValue(checks, x, kind);
            } else {
                boundedValue(checks, x, kind, BOUNDS[kind]);
            }
        }
        noKind(checks);
        fullDraft(checks);
        refusedChangesNothing(checks);
        checks.end();
    }

    private static void anyValue(Checks checks, BindingLisp x, int kind) {
        int[] values = {0, 1, -1, 8, Integer.MAX_VALUE, Integer.MIN_VALUE};
        x.wipe();
        for (int i = 0; i < values.length; i++) {
            checks.same("token(" + kind + ", " + values[i] + ")", x.token(kind, values[i]), i + 1);
        }
    }

    private static void boundedValue(Checks checks, BindingLisp x, int kind, int bound) {
        x.wipe();
        for (int value = 0; value < bound; value++) {
            checks.same("token(" + kind + ", " + value + ")", x.token(kind, value), value + 1);
        }
        int[] wrong = {-1, bound, bound + 1, Integer.MAX_VALUE, Integer.MIN_VALUE};
        for (int value : wrong) {
            checks.same("token(" + kind + ", " + value + ")", x.token(kind, value), BindingLisp.NONE);
        }
        checks.same("wipe()", x.wipe(), bound);
    }

    private static void noKind(Checks checks) {
        BindingLisp x = new BindingLisp();
        int[] wrong = {-1, 19, 20, Integer.MAX_VALUE, Integer.MIN_VALUE};
        for (int kind : wrong) {
            checks.same("token(" + kind + ", 0)", x.token(kind, 0), BindingLisp.NONE);
        }
        checks.same("wipe() after wrong kinds", x.wipe(), 0);
    }

    private static void fullDraft(Checks checks) {
        BindingLisp x = new BindingLisp();
        for (int i = 1; i <= 47; i++) {
            checks.same("token(12, 0)", x.token(12, 0), i);
        }
        checks.same("48th token", x.token(0, 9), 48);
        checks.same("49th token", x.token(0, 8), BindingLisp.NONE);
        checks.same("49th token, again", x.token(19, 8), BindingLisp.NONE);
        checks.same("run() of 48 tokens", x.run(), BindingLisp.OK);
        checks.same("result() of 48 tokens", x.result(), 9);
        checks.same("wipe() of 48 tokens", x.wipe(), 48);
        checks.same("token(0, 1) after it", x.token(0, 1), 1);
    }

    private static void refusedChangesNothing(Checks checks) {
        BindingLisp x = new BindingLisp();
        x.token(0, 5);
        x.token(1, 8);
        x.token(99, 0);
        checks.same("run() after refused tokens", x.run(), BindingLisp.OK);
        checks.same("result() after refused tokens", x.result(), 5);
        checks.same("token(0, 6) after refused tokens", x.token(0, 6), 2);
    }
}
