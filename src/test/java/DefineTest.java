/** Promise 5. */
public final class DefineTest {
    public static void main(String[] args) {
        Checks checks = new Checks();
        everyFunction(checks);
        draftIsEmptyThen(checks);
        outOfRange(checks);
        notOneExpression(checks);
        again(checks);
        longest(checks);
        checks.end();
    }

    private static void everyFunction(Checks checks) {
        BindingLisp x = new BindingLisp();
        for (int k = 0; k < 4; k++) {
            checks.define(x, k, k + 4, "ADD VAR " + (k + 4) + " " + 10 * k);
        }
        for (int k = 0; k < 4; k++) {
            checks.gives(x, "NAMED " + k + " 5", 5 + 10 * k);
        }
        for (int s = 0; s < 8; s++) {
            checks.define(x, 0, s, "VAR " + s);
            checks.gives(x, "NAMED 0 6", 6);
        }
    }

    private static void draftIsEmptyThen(Checks checks) {
        BindingLisp x = new BindingLisp();
        checks.define(x, 0, 0, "ADD a 1");
        checks.same("run() after define", x.run(), BindingLisp.SYNTAX);
        checks.same("wipe() after define", x.wipe(), 0);
        checks.same("token(0, 1) after define", x.token(0, 1), 1);
    }

    private static void outOfRange(Checks checks) {
        BindingLisp x = new BindingLisp();
        Checks.write(x, "ADD 1 2");
        int[] noFunction = {-1, 4, Integer.MAX_VALUE, Integer.MIN_VALUE};
        int[] noSymbol = {-1, 8, Integer.MAX_VALUE, Integer.MIN_VALUE};
        for (int k : noFunction) {
            checks.no("define(" + k + ", 0)", x.define(k, 0));
        }
        for (int s : noSymbol) {
            checks.no("define(0, " + s + ")", x.define(0, s));
        }
        checks.same("run() after refused defines", x.run(), BindingLisp.OK);
        checks.same("wipe() after refused defines", x.wipe(), 3);
        for (int k = 0; k < 4; k++) {
            checks.ends(x, "NAMED " + k + " 1", BindingLisp.MISSING);
        }
    }

    private static void notOneExpression(Checks checks) {
        BindingLisp x = new BindingLisp();
        checks.define(x, 0, 0, "7");
        checks.no("define of an empty draft", x.define(0, 0));
        String[] wrong = {"ADD 1", "1 2", "IF 1 2", "SET a", "ADD 1 2 3", "ERROR ERROR"};
        for (String words : wrong) {
            Checks.write(x, words);
            checks.no("define of " + words, x.define(0, 0));
            checks.same("wipe() after it", x.wipe(), words.replace("SET a", "SET").split(" ").length);
        }
        checks.gives(x, "NAMED 0 1", 7);
    }

    private static void again(Checks checks) {
        BindingLisp x = new BindingLisp();
        checks.define(x, 1, 0, "ADD a ADD a a");
        checks.define(x, 2, 1, "SUB b 1");
        checks.define(x, 1, 2, "c");
        checks.gives(x, "NAMED 1 4", 4);
        checks.gives(x, "NAMED 2 4", 3);
    }

    /** Functions of 48 tokens stand side by side without touching each other or the draft. */
    private static void longest(Checks checks) {
        BindingLisp x = new BindingLisp();
        for (int k = 0; k < 4; k++) {
            checks.define(x, k, 0, "CATCH 0 ".repeat(45) + "ADD a " + k);
        }
        for (int k = 0; k < 4; k++) {
            checks.gives(x, "NAMED " + k + " 100", 100 + k);
        }
        checks.gives(x, "CATCH 0 ".repeat(45) + "NAMED 3 NAMED 2 50", 55);
    }
}
