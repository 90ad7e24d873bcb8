/** The boundary cases of promises 6 to 9, one method for each sentence that names some. */
public final class RunEdgesTest {
    private static final String FOREVER = "CALL FUN a CALL a a FUN a CALL a a";

    private final Checks checks = new Checks();
    private final Refusals refusals = new Refusals(checks);

    public static void main(String[] args) {
        RunEdgesTest test = new RunEdgesTest();
        test.draftStays();
        test.codes();
        test.syntaxChangesNothing();
        test.closuresBecomeVoid();
        test.boundIsGivenBackFirst();
        test.resultOfEach();
        test.resultBeforeRuns();
        test.closureOfEach();
        test.stepsOfEach();
        test.latestSkipsSyntax();
        test.checks.end();
    }

    // Promise 6

    private void draftStays() {
        checks.about("Works the draft (which stays) out");
        String[] drafts = {"5", "FUN a a", "ERROR", FOREVER, "ADD 1 ".repeat(23) + "CATCH 0 1"};
        for (String words : drafts) {
            BindingLisp x = new BindingLisp();
            Checks.write(x, words);
            int first = x.run();
            long result = x.result();
            int steps = x.steps();
            for (int again = 0; again < 3; again++) {
                checks.same("run() of " + words + " again", x.run(), first);
                checks.same("result() of " + words + " again", x.result(), result);
                checks.same("steps() of " + words + " again", x.steps(), steps);
            }
            BindingLisp y = new BindingLisp();
            Checks.write(y, words);
            checks.same("wipe() after runs of " + words, x.wipe(), y.wipe());
        }
        BindingLisp x = new BindingLisp();
        Checks.write(x, "ADD 1");
        checks.same("run()", x.run(), BindingLisp.SYNTAX);
        checks.same("token(0, 2)", x.token(0, 2), 3);
        checks.same("run()", x.run(), BindingLisp.OK);
        checks.same("result()", x.result(), 3);
    }

    private void codes() {
        checks.about("OK, the code of the error with which it ended, LONG, or SYNTAX");
        BindingLisp x = new BindingLisp();
        checks.gives(x, "5", 5);
        checks.ends(x, "a", 1);
        checks.ends(x, "CALL 1 2", 2);
        checks.ends(x, "NAMED 0 2", 3);
        checks.ends(x, "THROW 0 2", 3);
        checks.ends(x, "ERROR", 4);
        checks.ends(x, FOREVER, 5);
        Checks.write(x, "1 2");
        checks.same("run() of two expressions", x.run(), 6);
        checks.gives(x, "TRY ERROR 5", 5);
        checks.ends(x, "TRY ERROR a", 1);
        checks.ends(x, "PROTECT a ERROR", 4);
        checks.ends(x, "PROTECT ERROR a", 1);
    }

    private void syntaxChangesNothing() {
        checks.about("SYNTAX if it is not one expression (nothing changes then)");
        refusals.where("new", "run()", BindingLisp::run, BindingLisp.SYNTAX);
        refusals.where("an empty draft", "run()", BindingLisp::run, BindingLisp.SYNTAX);
        refusals.where("too short", "run()", BindingLisp::run, BindingLisp.SYNTAX);
        refusals.where("too long", "run()", BindingLisp::run, BindingLisp.SYNTAX);
        refusals.where("full draft that is not", "run()", BindingLisp::run, BindingLisp.SYNTAX);
        String[] wrong = {"SEQ SET a 5", "SET a 5 1", "SEQ LOCAL a 5", "LOCAL a 5 1", "ADD SET a 5", "FUN a", "CALL FUN a a"};
        for (String words : wrong) {
            afterARunThatGave(words, "ADD 20 22");
            afterARunThatGave(words, "FUN a a");
            afterARunThatGave(words, "SEQ 1 ERROR");
            afterARunThatGave(words, FOREVER);
        }
    }

    private void afterARunThatGave(String wrong, String words) {
        BindingLisp x = new BindingLisp();
        x.set(0, 3);
        Checks.write(x, words);
        x.run();
        long result = x.result();
        boolean closure = x.closure();
        int steps = x.steps();
        Checks.write(x, wrong);
        checks.same("run() of " + wrong, x.run(), BindingLisp.SYNTAX);
        checks.same("result() of " + words + " after SYNTAX", x.result(), result);
        checks.same("closure() of " + words + " after SYNTAX", x.closure() ? 1 : 0, closure ? 1 : 0);
        checks.same("steps() of " + words + " after SYNTAX", x.steps(), steps);
        checks.globalIs(x, "SYNTAX", 0, 3);
        checks.noLocal(x, "SYNTAX", 0, 0);
    }

    private void closuresBecomeVoid() {
        checks.about("At the end all places that hold closures become void.");
        String[] ends = {"1", "FUN a a", "ERROR", "THROW 0 1", FOREVER};
        for (int s = 0; s < 8; s++) {
            for (String end : ends) {
                BindingLisp x = new BindingLisp();
                x.set(s, 4);
                Checks.write(x, "SEQ SET " + s + " FUN a a SEQ LOCAL " + s + " FUN a a SEQ BUFFER 1 LOCAL " + s
                    + " 5 SEQ BUFFER 2 LOCAL " + s + " FUN a a " + end);
                x.run();
                checks.globalIs(x, "closures and " + end, s, BindingLisp.NOTHING);
                checks.localIs(x, "closures and " + end, 0, s, BindingLisp.NOTHING);
                checks.localIs(x, "closures and " + end, 1, s, 5);
                checks.localIs(x, "closures and " + end, 2, s, BindingLisp.NOTHING);
                checks.ends(x, "VAR " + s, BindingLisp.VOID);
                checks.gives(x, "BUFFER 1 VAR " + s, 5);
                checks.ends(x, "BUFFER 2 VAR " + s, BindingLisp.VOID);
                checks.yes("kill(0, " + s + ")", x.kill(0, s));
                checks.ends(x, "VAR " + s, BindingLisp.VOID);
            }
        }
    }

    /** So a closure that was bound is gone without a trace, and one that was kept becomes void. */
    private void boundIsGivenBackFirst() {
        checks.about("At the end all places that hold closures become void.");
        String[] ends = {"1", "ERROR", "THROW 0 1", FOREVER};
        for (String end : ends) {
            BindingLisp x = new BindingLisp();
            x.special(3, true);
            x.set(3, 4);
            Checks.write(x, "LET d FUN a a " + end);
            x.run();
            checks.globalIs(x, "LET d of a closure, " + end, 3, 4);
            Checks.write(x, "CALL FUN d " + end + " FUN a a");
            x.run();
            checks.globalIs(x, "a call with a closure, " + end, 3, 4);
            Checks.write(x, "SEQ SET d FUN a a LET d 5 " + end);
            x.run();
            checks.globalIs(x, "LET d after SET d of a closure, " + end, 3, BindingLisp.NOTHING);
        }
    }

    // Promise 7

    private void resultOfEach() {
        checks.about("The int that the latest run that was not SYNTAX gave; NOTHING if it was not OK, gave a closure");
        BindingLisp x = new BindingLisp();
        String[] notOk = {"a", "CALL 1 2", "NAMED 0 2", "THROW 0 2", "ERROR", FOREVER};
        for (String words : notOk) {
            checks.gives(x, "0", 0);
            checks.ends(x, words, codeOf(words));
        }
        for (int n : new int[] {Integer.MIN_VALUE, -1, 0, 1, Integer.MAX_VALUE}) {
            checks.gives(x, "" + n, n);
        }
        Checks.write(x, "FUN a a");
        checks.same("run() of a closure", x.run(), BindingLisp.OK);
        checks.same("result() of a closure", x.result(), BindingLisp.NOTHING);
        checks.same("result() once more", x.result(), BindingLisp.NOTHING);
    }

    private static int codeOf(String words) {
        return switch (words) {
            case "a" -> BindingLisp.VOID;
            case "CALL 1 2" -> BindingLisp.TYPE;
            case "ERROR" -> BindingLisp.ERROR;
            case FOREVER -> BindingLisp.LONG;
            default -> BindingLisp.MISSING;
        };
    }

    private void resultBeforeRuns() {
        checks.about("NOTHING if there was none");
        BindingLisp x = new BindingLisp();
        checks.same("result() of a new object", x.result(), BindingLisp.NOTHING);
        checks.no("closure() of a new object", x.closure());
        checks.same("steps() of a new object", x.steps(), 0);
        x.token(0, 5);
        x.token(0, 5);
        checks.same("run()", x.run(), BindingLisp.SYNTAX);
        checks.same("result() after SYNTAX alone", x.result(), BindingLisp.NOTHING);
        checks.no("closure() after SYNTAX alone", x.closure());
        checks.same("steps() after SYNTAX alone", x.steps(), 0);
        x.wipe();
        x.token(0, 5);
        checks.yes("define(0, 0)", x.define(0, 0));
        checks.same("result() after a define", x.result(), BindingLisp.NOTHING);
    }

    // Promise 8

    private void closureOfEach() {
        checks.about("Whether the latest run that was not SYNTAX was OK and gave a closure.");
        BindingLisp x = new BindingLisp();
        String[] notOne = {"5", "0", "CALL FUN a a 1", "PROTECT 1 FUN a a", "IF FUN a a 1 2"};
        for (String words : notOne) {
            givesClosure(x, "FUN a a");
            Checks.write(x, words);
            checks.same("run() of " + words, x.run(), BindingLisp.OK);
            checks.no("closure() of " + words, x.closure());
        }
        for (String words : new String[] {"PROTECT FUN a a ERROR", "SEQ FUN a a ERROR", "SEQ FUN a a " + FOREVER}) {
            givesClosure(x, "SET a FUN b b");
            Checks.write(x, words);
            x.run();
            checks.no("closure() of " + words, x.closure());
            checks.same("result() of " + words, x.result(), BindingLisp.NOTHING);
        }
        givesClosure(x, "CATCH 0 THROW 0 FUN a a");
        givesClosure(x, "LOCAL a FUN b b");
        givesClosure(x, "CALL FUN a a FUN b b");
    }

    private void givesClosure(BindingLisp x, String words) {
        Checks.write(x, words);
        checks.same("run() of " + words, x.run(), BindingLisp.OK);
        checks.yes("closure() of " + words, x.closure());
        checks.same("result() of " + words, x.result(), BindingLisp.NOTHING);
    }

    // Promise 9

    private void stepsOfEach() {
        checks.about("How many steps the latest run that was not SYNTAX took.");
        BindingLisp x = new BindingLisp();
        checks.takes(x, "1", 1);
        checks.takes(x, FOREVER, 300);
        checks.takes(x, "ERROR", 1);
        checks.takes(x, "SEQ SEQ 1 2 ERROR", 5);
        checks.takes(x, "ADD 1 ".repeat(23) + "CATCH 0 1", 48);
        checks.takes(x, "CATCH 0 PROTECT THROW 0 1 SEQ 2 3", 7);
        checks.takes(x, "TRY PROTECT ERROR ERROR 2", 5);
        checks.takes(x, "FUN a a", 1);
        checks.same("steps() once more", x.steps(), 1);
    }

    private void latestSkipsSyntax() {
        checks.about("the latest run that was not SYNTAX");
        BindingLisp x = new BindingLisp();
        checks.gives(x, "ADD 20 22", 42);
        x.wipe();
        for (int again = 0; again < 3; again++) {
            checks.same("run() of an empty draft", x.run(), BindingLisp.SYNTAX);
            checks.same("result()", x.result(), 42);
            checks.no("closure()", x.closure());
            checks.same("steps()", x.steps(), 3);
        }
        givesClosure(x, "SEQ 1 FUN a a");
        x.token(0, 1);
        checks.same("run() of a draft too long", x.run(), BindingLisp.SYNTAX);
        checks.same("result()", x.result(), BindingLisp.NOTHING);
        checks.yes("closure()", x.closure());
        checks.same("steps()", x.steps(), 3);
    }
}
