/** Promise 1, and the constants. */
public final class NewObjectTest {
    public static void main(String[] args) {
        Checks checks = new Checks();
        constants(checks);
        places(checks);
        checks.same("wipe() of a new object", new BindingLisp().wipe(), 0);
        checks.same("run() of a new object", new BindingLisp().run(), BindingLisp.SYNTAX);
        noFunctions(checks);
        noSpecials(checks);
        apart(checks);
        checks.end();
    }

    private static void constants(Checks checks) {
        checks.same("OK", BindingLisp.OK, 0);
        checks.same("VOID", BindingLisp.VOID, 1);
        checks.same("TYPE", BindingLisp.TYPE, 2);
        checks.same("MISSING", BindingLisp.MISSING, 3);
        checks.same("ERROR", BindingLisp.ERROR, 4);
        checks.same("LONG", BindingLisp.LONG, 5);
        checks.same("SYNTAX", BindingLisp.SYNTAX, 6);
        checks.same("NONE", BindingLisp.NONE, -1);
        checks.same("NOTHING", BindingLisp.NOTHING, 10000000000L);
    }

    private static void places(Checks checks) {
        BindingLisp x = new BindingLisp();
        for (int s = 0; s < 8; s++) {
            checks.globalIs(x, "new", s, BindingLisp.NOTHING);
            for (int b = 0; b < 3; b++) {
                checks.noLocal(x, "new", b, s);
            }
        }
    }

    private static void noFunctions(Checks checks) {
        for (int k = 0; k < 4; k++) {
            checks.ends(new BindingLisp(), "NAMED " + k + " 1", BindingLisp.MISSING);
        }
    }

    private static void noSpecials(Checks checks) {
        for (int s = 0; s < 8; s++) {
            BindingLisp x = new BindingLisp();
            checks.define(x, 0, (s + 1) % 8, "VAR " + s);
            checks.ends(x, "LET " + s + " 5 NAMED 0 1", BindingLisp.VOID);
        }
    }

    private static void apart(Checks checks) {
        BindingLisp one = new BindingLisp();
        BindingLisp other = new BindingLisp();
        one.set(0, 5);
        checks.define(one, 0, 0, "1");
        Checks.write(one, "LOCAL b 7");
        one.run();
        checks.globalIs(other, "set of another object", 0, BindingLisp.NOTHING);
        checks.noLocal(other, "LOCAL of another object", 0, 1);
        checks.same("wipe()", other.wipe(), 0);
        checks.ends(other, "NAMED 0 1", BindingLisp.MISSING);
    }
}
