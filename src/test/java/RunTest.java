/** Promise 6: what run answers, the tokens and their errors. */
public final class RunTest {
    public static void main(String[] args) {
        Checks checks = new Checks();
        syntax(checks);
        draftStays(checks);
        numbers(checks);
        choice(checks);
        variables(checks);
        types(checks);
        missing(checks);
        closuresGo(checks);
        closuresGoEverywhere(checks);
        manyRuns(checks);
        checks.end();
    }

    private static void syntax(Checks checks) {
        BindingLisp x = new BindingLisp();
        String[] wrong = {
            "ADD", "ADD 1", "ADD 1 2 3", "1 1", "SET a", "LET a 1", "FUN a", "CALL 1", "NAMED 0",
            "SEQ SET a 5", "IF 1 2", "IF 1 2 3 4", "SUB 1", "LESS 1", "CATCH 0", "THROW 0", "TRY 1",
            "PROTECT 1", "BUFFER 0", "LOCAL a", "ERROR 1", "a a", "LOCAL a 1 1", "SET a 1 1"
        };
        for (String words : wrong) {
            Checks.write(x, words);
            checks.same("run() of " + words, x.run(), BindingLisp.SYNTAX);
        }
        checks.globalIs(x, "SYNTAX", 0, BindingLisp.NOTHING);
        checks.noLocal(x, "SYNTAX", 0, 0);
        checks.same("steps() after SYNTAX", x.steps(), 0);
    }

    private static void draftStays(Checks checks) {
        BindingLisp x = new BindingLisp();
        x.set(0, 0);
        Checks.write(x, "SET a ADD a 1");
        for (int i = 1; i <= 3; i++) {
            checks.same("run()", x.run(), BindingLisp.OK);
            checks.same("result()", x.result(), i);
        }
        checks.same("wipe()", x.wipe(), 4);
        Checks.write(x, "SEQ 1 ERROR");
        checks.same("run()", x.run(), BindingLisp.ERROR);
        checks.same("wipe() after an error", x.wipe(), 3);
        Checks.write(x, "SEQ 1");
        checks.same("run()", x.run(), BindingLisp.SYNTAX);
        checks.same("token(0, 4) after SYNTAX", x.token(0, 4), 3);
        checks.same("run()", x.run(), BindingLisp.OK);
    }

    private static void numbers(Checks checks) {
        BindingLisp x = new BindingLisp();
        checks.gives(x, "ADD 3 4", 7);
        checks.gives(x, "SUB 3 4", -1);
        checks.gives(x, "ADD 2147483647 1", Integer.MIN_VALUE);
        checks.gives(x, "SUB -2147483648 1", Integer.MAX_VALUE);
        checks.gives(x, "ADD -2147483648 -2147483648", 0);
        checks.gives(x, "SUB 0 -2147483648", Integer.MIN_VALUE);
        checks.gives(x, "LESS 3 4", 1);
        checks.gives(x, "LESS 4 3", 0);
        checks.gives(x, "LESS 4 4", 0);
        checks.gives(x, "LESS -2147483648 2147483647", 1);
        checks.gives(x, "LESS 2147483647 -2147483648", 0);
        checks.gives(x, "SEQ 1 2", 2);
        checks.gives(x, "SUB SET a 5 ADD a a", -5);
    }

    private static void choice(Checks checks) {
        BindingLisp x = new BindingLisp();
        checks.gives(x, "IF 1 2 3", 2);
        checks.gives(x, "IF -1 2 3", 2);
        checks.gives(x, "IF 0 2 3", 3);
        checks.gives(x, "IF FUN a a 2 3", 2);
        checks.gives(x, "IF 1 2 ERROR", 2);
        checks.gives(x, "IF 0 ERROR 3", 3);
        checks.ends(x, "IF ERROR 2 3", BindingLisp.ERROR);
        checks.gives(x, "IF IF 0 1 0 IF 1 2 3 IF 0 4 5", 5);
    }

    private static void variables(Checks checks) {
        BindingLisp x = new BindingLisp();
        checks.ends(x, "a", BindingLisp.VOID);
        checks.gives(x, "SET a 4", 4);
        checks.gives(x, "a", 4);
        checks.gives(x, "SEQ SET b ADD a 1 ADD b a", 9);
        checks.ends(x, "SET a c", BindingLisp.VOID);
        checks.globalIs(x, "a SET whose E ended", 0, 4);
        checks.gives(x, "SEQ SET h FUN a ADD a 1 CALL h 5", 6);
    }

    private static void types(Checks checks) {
        BindingLisp x = new BindingLisp();
        String[] kinds = {"ADD", "SUB", "LESS"};
        for (String kind : kinds) {
            checks.ends(x, kind + " FUN a a 1", BindingLisp.TYPE);
            checks.ends(x, kind + " 1 FUN a a", BindingLisp.TYPE);
            checks.ends(x, kind + " FUN a a FUN a a", BindingLisp.TYPE);
            checks.ends(x, kind + " FUN a a ERROR", BindingLisp.ERROR);
            checks.ends(x, kind + " ERROR FUN a a", BindingLisp.ERROR);
            checks.takes(x, kind + " FUN a a SET b 1", 4);
            checks.globalIs(x, kind, 1, 1);
        }
        checks.ends(x, "CALL 1 2", BindingLisp.TYPE);
        checks.ends(x, "CALL 0 FUN a a", BindingLisp.TYPE);
        checks.ends(x, "CALL 1 ERROR", BindingLisp.ERROR);
        checks.ends(x, "CALL ERROR 1", BindingLisp.ERROR);
        checks.ends(x, "CALL 1 SET c 8", BindingLisp.TYPE);
        checks.globalIs(x, "CALL of an int", 2, 8);
    }

    private static void missing(Checks checks) {
        BindingLisp x = new BindingLisp();
        checks.ends(x, "NAMED 2 SET a 5", BindingLisp.MISSING);
        checks.globalIs(x, "NAMED", 0, 5);
        checks.ends(x, "NAMED 2 ERROR", BindingLisp.ERROR);
        checks.ends(x, "THROW 2 SET a 6", BindingLisp.MISSING);
        checks.globalIs(x, "THROW", 0, 6);
        checks.ends(x, "THROW 2 ERROR", BindingLisp.ERROR);
        checks.ends(x, "CATCH 1 THROW 2 5", BindingLisp.MISSING);
        checks.ends(x, "SEQ CATCH 2 1 THROW 2 5", BindingLisp.MISSING);
        checks.ends(x, "CALL CATCH 2 FUN a THROW 2 a 5", BindingLisp.MISSING);
    }

    /** Whichever way a run ends, no place holds a closure afterwards. */
    private static void closuresGo(Checks checks) {
        String[] rests = {"1", "ERROR", "CALL FUN a CALL a a FUN a CALL a a"};
        int[] codes = {BindingLisp.OK, BindingLisp.ERROR, BindingLisp.LONG};
        for (int i = 0; i < rests.length; i++) {
            BindingLisp x = new BindingLisp();
            x.set(1, 3);
            x.set(5, 4);
            String words = "SEQ SET b FUN a a SEQ BUFFER 2 LOCAL c FUN a a SEQ LOCAL d 7 " + rests[i];
            Checks.write(x, words);
            checks.same("run() of " + words, x.run(), codes[i]);
            checks.globalIs(x, words, 1, BindingLisp.NOTHING);
            checks.globalIs(x, words, 5, 4);
            checks.localIs(x, words, 2, 2, BindingLisp.NOTHING);
            checks.localIs(x, words, 0, 3, 7);
            checks.ends(x, "b", BindingLisp.VOID);
            checks.ends(x, "BUFFER 2 c", BindingLisp.VOID);
        }
    }

    private static void closuresGoEverywhere(Checks checks) {
        for (int s = 0; s < 8; s++) {
            BindingLisp x = new BindingLisp();
            Checks.write(x, "SET " + s + " BUFFER 0 LOCAL " + s + " BUFFER 1 LOCAL " + s
                + " BUFFER 2 LOCAL " + s + " SET " + s + " FUN 0 1");
            checks.same("run()", x.run(), BindingLisp.OK);
            for (int b = 0; b < 3; b++) {
                checks.ends(x, "BUFFER " + b + " VAR " + s, BindingLisp.VOID);
                if (x.kill(b, s)) {
                    checks.ends(x, "BUFFER " + b + " VAR " + s, BindingLisp.VOID);
                }
            }
            checks.globalIs(x, "a run with closures", s, BindingLisp.NOTHING);
        }
    }

    /** More closures and lexical places in all than one run could make. */
    private static void manyRuns(Checks checks) {
        BindingLisp x = new BindingLisp();
        Checks.write(x, "LET a FUN b b ".repeat(11) + "CALL a 5");
        for (int i = 0; i < 60; i++) {
            checks.same("run() number " + i, x.run(), BindingLisp.OK);
            checks.same("result() number " + i, x.result(), 5);
        }
    }
}
