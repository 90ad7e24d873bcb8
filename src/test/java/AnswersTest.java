/** Promises 7, 8 and 9. */
public final class AnswersTest {
    public static void main(String[] args) {
        Checks checks = new Checks();
        before(checks);
        latest(checks);
        syntaxIsNotCounted(checks);
        edges(checks);
        closures(checks);
        steps(checks);
        checks.end();
    }

    private static void before(Checks checks) {
        BindingLisp x = new BindingLisp();
        checks.same("result() before a run", x.result(), BindingLisp.NOTHING);
        checks.no("closure() before a run", x.closure());
        checks.same("steps() before a run", x.steps(), 0);
        x.run();
        checks.same("result() after SYNTAX alone", x.result(), BindingLisp.NOTHING);
        checks.no("closure() after SYNTAX alone", x.closure());
        checks.same("steps() after SYNTAX alone", x.steps(), 0);
    }

    private static void latest(Checks checks) {
        BindingLisp x = new BindingLisp();
        checks.gives(x, "ADD 1 2", 3);
        checks.ends(x, "ADD 1 ERROR", BindingLisp.ERROR);
        Checks.write(x, "FUN a a");
        checks.same("run() of FUN", x.run(), BindingLisp.OK);
        checks.same("result() of FUN", x.result(), BindingLisp.NOTHING);
        checks.yes("closure() of FUN", x.closure());
        checks.ends(x, "SEQ FUN a a ERROR", BindingLisp.ERROR);
        checks.ends(x, "CALL FUN a CALL a a FUN a CALL a a", BindingLisp.LONG);
        checks.gives(x, "0", 0);
    }

    private static void syntaxIsNotCounted(Checks checks) {
        BindingLisp x = new BindingLisp();
        checks.gives(x, "ADD 1 2", 3);
        x.wipe();
        checks.same("run() of nothing", x.run(), BindingLisp.SYNTAX);
        checks.same("result() after SYNTAX", x.result(), 3);
        checks.same("steps() after SYNTAX", x.steps(), 3);
        Checks.write(x, "FUN a a");
        x.run();
        Checks.write(x, "1 2");
        checks.same("run() of two", x.run(), BindingLisp.SYNTAX);
        checks.yes("closure() after SYNTAX", x.closure());
        checks.same("steps() after SYNTAX", x.steps(), 1);
    }

    private static void edges(Checks checks) {
        BindingLisp x = new BindingLisp();
        checks.gives(x, "2147483647", Integer.MAX_VALUE);
        checks.gives(x, "-2147483648", Integer.MIN_VALUE);
        checks.gives(x, "-1", -1);
    }

    private static void closures(Checks checks) {
        BindingLisp x = new BindingLisp();
        String[] given = {
            "SET a FUN b b", "LET a FUN b b a", "CATCH 1 THROW 1 FUN a a", "TRY ERROR FUN a a",
            "PROTECT FUN a a 1", "BUFFER 1 LOCAL a FUN b b", "IF 0 1 FUN a a", "CALL FUN a FUN b a 3"
        };
        for (String words : given) {
            Checks.write(x, words);
            checks.same("run() of " + words, x.run(), BindingLisp.OK);
            checks.yes("closure() of " + words, x.closure());
            checks.same("result() of " + words, x.result(), BindingLisp.NOTHING);
        }
    }

    private static void steps(Checks checks) {
        BindingLisp x = new BindingLisp();
        checks.takes(x, "1", 1);
        checks.takes(x, "ERROR", 1);
        checks.takes(x, "a", 1);
        checks.takes(x, "FUN a ADD a a", 1);
        checks.takes(x, "CALL FUN a ADD a a 1", 6);
        checks.takes(x, "IF 1 2 ADD 3 4", 3);
        checks.takes(x, "IF 0 2 ADD 3 4", 5);
        checks.takes(x, "TRY 1 ADD 2 3", 2);
        checks.takes(x, "TRY ERROR ADD 2 3", 5);
        checks.takes(x, "PROTECT 1 ADD 2 3", 5);
        checks.takes(x, "PROTECT ERROR ADD 2 3", 5);
        checks.takes(x, "ADD ERROR ADD 2 3", 2);
        checks.takes(x, "THROW 0 ADD 2 3", 4);
        checks.takes(x, "NAMED 0 1", 2);
        checks.define(x, 0, 0, "SEQ 1 a");
        checks.takes(x, "NAMED 0 1", 5);
        checks.takes(x, "SET a LET b 1 BUFFER 2 LOCAL c CATCH 3 b", 7);
    }
}
