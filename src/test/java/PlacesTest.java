/** Promises 10 to 14. */
public final class PlacesTest {
    private static final int[] NO_SYMBOL = {-1, 8, 9, 32, Integer.MAX_VALUE, Integer.MIN_VALUE};
    private static final int[] NO_BUFFER = {-2, -1, 3, 4, Integer.MAX_VALUE, Integer.MIN_VALUE};

    public static void main(String[] args) {
        Checks checks = new Checks();
        globals(checks);
        locals(checks);
        outOfRange(checks);
        voidLocal(checks);
        killing(checks);
        setIsGlobal(checks);
        checks.end();
    }

    private static void globals(Checks checks) {
        BindingLisp x = new BindingLisp();
        for (int s = 0; s < 8; s++) {
            checks.yes("set(" + s + ", 1)", x.set(s, 1));
            checks.yes("set(" + s + ", n)", x.set(s, 100 + s));
        }
        for (int s = 0; s < 8; s++) {
            checks.globalIs(x, "set", s, 100 + s);
            checks.gives(x, "VAR " + s, 100 + s);
        }
        checks.yes("set(0, MAX)", x.set(0, Integer.MAX_VALUE));
        checks.globalIs(x, "set", 0, Integer.MAX_VALUE);
        checks.yes("set(0, MIN)", x.set(0, Integer.MIN_VALUE));
        checks.globalIs(x, "set", 0, Integer.MIN_VALUE);
        checks.gives(x, "SET b 5", 5);
        checks.globalIs(x, "SET", 1, 5);
    }

    private static void locals(Checks checks) {
        BindingLisp x = new BindingLisp();
        for (int b = 0; b < 3; b++) {
            for (int s = b; s < 8; s += 2) {
                checks.gives(x, "BUFFER " + b + " LOCAL " + s + " " + (10 * b + s), 10 * b + s);
            }
        }
        for (int b = 0; b < 3; b++) {
            for (int s = 0; s < 8; s++) {
                if (s >= b && (s - b) % 2 == 0) {
                    checks.localIs(x, "LOCAL", b, s, 10 * b + s);
                } else {
                    checks.noLocal(x, "LOCAL elsewhere", b, s);
                }
                checks.globalIs(x, "LOCAL", s, BindingLisp.NOTHING);
            }
        }
    }

    private static void outOfRange(Checks checks) {
        BindingLisp x = new BindingLisp();
        for (int s = 0; s < 8; s++) {
            x.set(s, s);
            for (int b = 0; b < 3; b++) {
                checks.gives(x, "BUFFER " + b + " LOCAL " + s + " 9", 9);
            }
        }
        for (int s : NO_SYMBOL) {
            checks.no("set(" + s + ", 77)", x.set(s, 77));
            checks.globalIs(x, "nothing", s, BindingLisp.NOTHING);
            checks.noLocal(x, "nothing", 1, s);
            checks.no("kill(1, " + s + ")", x.kill(1, s));
        }
        for (int b : NO_BUFFER) {
            checks.noLocal(x, "nothing", b, 0);
            checks.noLocal(x, "nothing", b, 7);
            checks.no("kill(" + b + ", 0)", x.kill(b, 0));
        }
        for (int s = 0; s < 8; s++) {
            checks.globalIs(x, "wrong calls", s, s);
            for (int b = 0; b < 3; b++) {
                checks.localIs(x, "wrong calls", b, s, 9);
            }
        }
    }

    /** A local place that held a closure is void after the run, but it is there. */
    private static void voidLocal(Checks checks) {
        BindingLisp x = new BindingLisp();
        x.set(0, 5);
        Checks.write(x, "LOCAL a FUN b b");
        checks.same("run()", x.run(), BindingLisp.OK);
        checks.localIs(x, "LOCAL of a closure", 0, 0, BindingLisp.NOTHING);
        checks.globalIs(x, "LOCAL of a closure", 0, 5);
        checks.ends(x, "a", BindingLisp.VOID);
        checks.gives(x, "BUFFER 1 a", 5);
        checks.gives(x, "SET a 6", 6);
        checks.localIs(x, "SET", 0, 0, 6);
        checks.globalIs(x, "SET", 0, 5);
    }

    private static void killing(Checks checks) {
        BindingLisp x = new BindingLisp();
        x.set(2, 1);
        checks.no("kill(1, 2) of none", x.kill(1, 2));
        checks.gives(x, "SEQ LOCAL c 2 BUFFER 1 SEQ LOCAL c 3 LOCAL d 4", 4);
        checks.yes("kill(1, 2)", x.kill(1, 2));
        checks.noLocal(x, "kill", 1, 2);
        checks.localIs(x, "kill of another", 0, 2, 2);
        checks.localIs(x, "kill of another", 1, 3, 4);
        checks.globalIs(x, "kill", 2, 1);
        checks.no("kill(1, 2) again", x.kill(1, 2));
        checks.gives(x, "BUFFER 1 c", 1);
        checks.gives(x, "BUFFER 1 SET c 8", 8);
        checks.noLocal(x, "SET after kill", 1, 2);
        checks.globalIs(x, "SET after kill", 2, 8);
        checks.gives(x, "BUFFER 1 LOCAL c 9", 9);
        checks.localIs(x, "LOCAL after kill", 1, 2, 9);
    }

    private static void setIsGlobal(Checks checks) {
        BindingLisp x = new BindingLisp();
        checks.gives(x, "LOCAL a 3", 3);
        checks.yes("set(0, 4)", x.set(0, 4));
        checks.localIs(x, "set", 0, 0, 3);
        checks.globalIs(x, "set", 0, 4);
        checks.gives(x, "a", 3);
        checks.yes("special(1, true)", x.special(1, true));
        checks.yes("set(1, 4)", x.set(1, 4));
        checks.gives(x, "LET b 5 SEQ SET b 6 b", 6);
        checks.globalIs(x, "LET", 1, 4);
    }
}
