import java.util.function.Consumer;
import java.util.function.ToLongFunction;

/** The boundary cases of "What it is" and of the tokens and errors under "Terms", by sentence. */
public final class TermEdgesTest {
    private static final int LOW = Integer.MIN_VALUE;
    private static final int HIGH = Integer.MAX_VALUE;

    private final Checks checks = new Checks();

    public static void main(String[] args) {
        TermEdgesTest test = new TermEdgesTest();
        test.calls();
        test.places();
        test.expressions();
        test.tokens();
        test.errors();
        test.checks.end();
    }

    private void calls() {
        lastCallOfEach();
        lastCallsThatChange();
        sameCallsToTheEnd();
        longRunsToTheEnd();
        callsBehindTheLast();
    }

    private void places() {
        symbols();
        values();
        voidPlaces();
        buffers();
    }

    private void expressions() {
        shortest();
        longest();
        tooShortAndTooLong();
        inTheWrongOrder();
    }

    private void tokens() {
        num();
        setGives();
        funIsNotWorkedOut();
        named();
        choice();
        sumsWrap();
        lessDoesNotWrap();
        catchAndThrow();
        tryAndProtect();
        bufferEdges();
        localEdges();
        errorIsOne();
        neededParts();
        stepBeforeParts();
    }

    private void errors() {
        voidError();
        typeErrors();
        missingFunction();
        missingCatch();
    }

    // What it is

    /** Ready after 8 calls; each run from then on gives 21 and takes 4 steps. */
    private static BindingLisp ready() {
        BindingLisp x = new BindingLisp();
        x.special(1, true);
        x.token(18, 0);
        x.define(3, 0);
        x.set(2, 20);
        Checks.append(x, "LOCAL d ADD c 1");
        return x;
    }

    private void lastCall(String call, ToLongFunction<BindingLisp> make, long want) {
        BindingLisp x = ready();
        for (int number = 9; number <= 511; number++) {
            x.run();
        }
        checks.same(call + " as call number 512", make.applyAsLong(x), want);
    }

    private void lastCallOfEach() {
        checks.about("An object is used for at most 512 calls after it has been made");
        lastCall("token(0, 5)", x -> x.token(0, 5), 5);
        lastCall("token(19, 5)", x -> x.token(19, 5), BindingLisp.NONE);
        lastCall("wipe()", BindingLisp::wipe, 4);
        lastCall("special(7, true)", x -> x.special(7, true) ? 1 : 0, 1);
        lastCall("special(8, true)", x -> x.special(8, true) ? 1 : 0, 0);
        lastCall("define(0, 0)", x -> x.define(0, 0) ? 1 : 0, 1);
        lastCall("define(4, 0)", x -> x.define(4, 0) ? 1 : 0, 0);
        lastCall("run()", BindingLisp::run, BindingLisp.OK);
        lastCall("result()", BindingLisp::result, 21);
        lastCall("closure()", x -> x.closure() ? 1 : 0, 0);
        lastCall("steps()", BindingLisp::steps, 4);
        lastCall("global(2)", x -> x.global(2), 20);
        lastCall("local(0, 3)", x -> x.local(0, 3), 21);
        lastCall("isLocal(0, 3)", x -> x.isLocal(0, 3) ? 1 : 0, 1);
        lastCall("set(5, 5)", x -> x.set(5, 5) ? 1 : 0, 1);
        lastCall("kill(0, 3)", x -> x.kill(0, 3) ? 1 : 0, 1);
    }

    private void lastTwo(String call, Consumer<BindingLisp> change, ToLongFunction<BindingLisp> ask, long want) {
        BindingLisp x = ready();
        for (int number = 9; number <= 510; number++) {
            x.run();
        }
        change.accept(x);
        checks.same("what is asked after " + call + " as call number 511", ask.applyAsLong(x), want);
    }

    private void lastCallsThatChange() {
        lastTwo("token(0, 5)", x -> x.token(0, 5), BindingLisp::wipe, 5);
        lastTwo("token(0, 5)", x -> x.token(0, 5), BindingLisp::run, BindingLisp.SYNTAX);
        lastTwo("wipe()", BindingLisp::wipe, BindingLisp::wipe, 0);
        lastTwo("special(7, true)", x -> x.special(7, true), x -> x.global(2), BindingLisp.NOTHING);
        lastTwo("define(0, 0)", x -> x.define(0, 0), BindingLisp::wipe, 0);
        lastTwo("set(2, 30)", x -> x.set(2, 30), x -> x.global(2), 30);
        lastTwo("kill(0, 3)", x -> x.kill(0, 3), x -> x.isLocal(0, 3) ? 1 : 0, 0);
    }

    /** Calls of one or two kinds alone, so that none of them wears out sooner than the others. */
    private void sameCallsToTheEnd() {
        checks.about("An object is used for at most 512 calls after it has been made");
        BindingLisp drafts = new BindingLisp();
        BindingLisp functions = new BindingLisp();
        BindingLisp specials = new BindingLisp();
        BindingLisp globals = new BindingLisp();
        BindingLisp refused = new BindingLisp();
        for (int number = 1; number <= 511; number += 2) {
            String when = " as call number " + number;
            checks.same("token(0, 1)" + when, drafts.token(0, 1), 1);
            checks.same("wipe() after token(0, 1)" + when, drafts.wipe(), 1);
            checks.same("token(0, 1)" + when, functions.token(0, 1), 1);
            checks.yes("define after token(0, 1)" + when, functions.define(number % 4, number % 8));
            checks.yes("special" + when, specials.special(number % 8, true));
            checks.yes("special after special" + when, specials.special(number % 8, false));
            checks.yes("set" + when, globals.set(number % 8, number));
            checks.same("global after set" + when, globals.global(number % 8), number);
            checks.same("token(19, 0)" + when, refused.token(19, 0), BindingLisp.NONE);
            checks.same("run() after token(19, 0)" + when, refused.run(), BindingLisp.SYNTAX);
        }
        BindingLisp tokens = new BindingLisp();
        for (int number = 1; number <= 512; number++) {
            if (number % 49 == 0) {
                checks.same("wipe() as call number " + number, tokens.wipe(), 48);
            } else {
                checks.same("token(18, 0) as call number " + number, tokens.token(18, 0), number % 49);
            }
        }
        BindingLisp locals = new BindingLisp();
        Checks.append(locals, "LOCAL a 5");
        for (int number = 3; number <= 509; number += 3) {
            checks.same("run() as call number " + number, locals.run(), BindingLisp.OK);
            checks.same("local after run() as call number " + number, locals.local(0, 0), 5);
            checks.yes("kill after run() as call number " + number, locals.kill(0, 0));
        }
    }

    /** Every run makes as many closures, lexical places and frames as its steps allow. */
    private void longRunsToTheEnd() {
        checks.about("An object is used for at most 512 calls after it has been made");
        BindingLisp x = new BindingLisp();
        x.set(7, 1);
        Checks.append(x, "LET g 9 CALL FUN a CALL a a FUN a CALL a a");
        for (int number = 13; number <= 511; number++) {
            checks.same("run() as call number " + number, x.run(), BindingLisp.LONG);
        }
        checks.same("steps() as call number 512", x.steps(), 300);
        x = new BindingLisp();
        x.set(7, 1);
        Checks.append(x, "LET a FUN b FUN c b ".repeat(8) + "LET d CALL a 5 CALL d 6");
        for (int number = 41; number <= 511; number += 2) {
            checks.same("run() as call number " + number, x.run(), BindingLisp.OK);
            checks.same("result() as call number " + (number + 1), x.result(), 5);
        }
    }

    /** Their answers are free, but LANGUAGE.md lets no call throw or fail to end. */
    private void callsBehindTheLast() {
        checks.about("what later calls answer is free");
        BindingLisp x = ready();
        int made = 0;
        for (int i = 0; i < 3000; i++) {
            x.token(i % 21 - 1, i % 9 - 1);
            x.run();
            x.define(i % 6 - 1, i % 10 - 1);
            x.special(i % 40, i % 3 == 0);
            x.set(i % 10 - 1, i);
            x.kill(i % 5 - 1, i % 10 - 1);
            x.local(i % 5 - 1, i % 10 - 1);
            if (i % 60 == 0) {
                x.wipe();
            }
            made++;
        }
        checks.same("rounds of calls that ended", made, 3000);
    }

    // Symbols, values, places, buffers

    private void symbols() {
        checks.about("SYMBOLS are 0..7, each SPECIAL or not");
        for (int set = 0; set < 256; set += 17) {
            BindingLisp x = new BindingLisp();
            for (int s = 0; s < 8; s++) {
                x.special(s, (set >> s & 1) == 1);
            }
            for (int s = 0; s < 8; s++) {
                String words = "CALL LET " + s + " 7 FUN " + (s + 1) % 8 + " VAR " + s + " 0";
                if ((set >> s & 1) == 1) {
                    checks.ends(x, words, BindingLisp.VOID);
                } else {
                    checks.gives(x, words, 7);
                }
            }
        }
        for (String use : new String[] {"VAR", "SET", "LET", "FUN", "LOCAL"}) {
            for (int s : new int[] {0, 7}) {
                Checks.write(new BindingLisp(), use + " " + s);
            }
        }
    }

    private void values() {
        checks.about("VALUES are ints and CLOSURES");
        BindingLisp x = new BindingLisp();
        for (int v : new int[] {LOW, LOW + 1, -1, 0, 1, HIGH - 1, HIGH}) {
            checks.gives(x, "LET a " + v + " a", v);
            checks.gives(x, "SEQ SET b " + v + " b", v);
            checks.globalIs(x, "SET", 1, v);
            checks.gives(x, "BUFFER 2 LOCAL c " + v, v);
            checks.localIs(x, "LOCAL", 2, 2, v);
            checks.gives(x, "CATCH 0 THROW 0 " + v, v);
            checks.gives(x, "PROTECT " + v + " 5", v);
            checks.gives(x, "CALL FUN a a " + v, v);
        }
        checks.gives(x, "SEQ SET a FUN b ADD b 1 CALL a 2", 3);
        checks.gives(x, "LET a FUN b ADD b 1 CALL a 2", 3);
        checks.gives(x, "SEQ LOCAL d FUN b ADD b 1 CALL d 2", 3);
        checks.gives(x, "CALL FUN a CALL a 4 FUN b ADD b 1", 5);
    }

    private void voidPlaces() {
        checks.about("PLACES hold a value or are VOID");
        BindingLisp x = new BindingLisp();
        Checks.write(x, "LOCAL a FUN b b");
        x.run();
        checks.ends(x, "a", BindingLisp.VOID);
        x.set(0, 6);
        checks.ends(x, "a", BindingLisp.VOID);
        checks.gives(x, "BUFFER 1 a", 6);
        checks.gives(x, "SEQ SET a 0 a", 0);
        checks.localIs(x, "SET of a void place", 0, 0, 0);
        checks.globalIs(x, "SET of a void place", 0, 6);
        Checks.write(x, "BUFFER 2 LOCAL a FUN b b");
        x.run();
        checks.localIs(x, "LOCAL of a closure", 2, 0, BindingLisp.NOTHING);
        checks.gives(x, "BUFFER 2 LOCAL a 7", 7);
        checks.localIs(x, "LOCAL of a void place", 2, 0, 7);
        checks.yes("set(3, 0)", x.set(3, 0));
        checks.globalIs(x, "set of a void place", 3, 0);
    }

    private void buffers() {
        checks.about("each symbol has a GLOBAL place, and in each BUFFER 0..2 it may have a LOCAL one");
        BindingLisp x = new BindingLisp();
        for (int s = 0; s < 8; s++) {
            x.set(s, 900 + s);
            for (int b = 0; b < 3; b++) {
                checks.gives(x, "BUFFER " + b + " LOCAL " + s + " " + (100 * b + s), 100 * b + s);
            }
        }
        for (int s = 0; s < 8; s++) {
            checks.globalIs(x, "all LOCALs", s, 900 + s);
            for (int b = 0; b < 3; b++) {
                checks.localIs(x, "all LOCALs", b, s, 100 * b + s);
            }
        }
    }

    // Expressions

    private void shortest() {
        checks.about("EXPRESSIONS are prefix lists of 1 to 48 tokens");
        BindingLisp x = new BindingLisp();
        checks.same("run() of no token", x.run(), BindingLisp.SYNTAX);
        checks.gives(x, "5", 5);
        checks.same("steps() of one token", x.steps(), 1);
        checks.ends(x, "a", BindingLisp.VOID);
        checks.same("steps() of one token", x.steps(), 1);
        checks.ends(x, "ERROR", BindingLisp.ERROR);
        checks.same("steps() of one token", x.steps(), 1);
        for (int kind = 2; kind < 18; kind++) {
            x.wipe();
            x.token(kind, 0);
            checks.same("run() of kind " + kind + " alone", x.run(), BindingLisp.SYNTAX);
        }
    }

    private void longest() {
        checks.about("EXPRESSIONS are prefix lists of 1 to 48 tokens");
        BindingLisp x = new BindingLisp();
        checks.gives(x, "SET a " + "CATCH 0 ".repeat(46) + "7", 7);
        checks.same("steps() of 48 tokens", x.steps(), 48);
        checks.gives(x, "ADD 1 ".repeat(23) + "BUFFER 2 7", 30);
        checks.same("steps() of 48 tokens", x.steps(), 48);
        checks.gives(x, "SET b " + "ADD ".repeat(23) + "1 ".repeat(24), 24);
        checks.same("wipe()", x.wipe(), 48);
        checks.gives(x, "IF 0 0 ".repeat(15) + "ADD 6 7", 13);
        checks.gives(x, "IF 1 ADD 40 2 " + "SEQ 1 ".repeat(21) + "9", 42);
        checks.same("wipe()", x.wipe(), 48);
    }

    private void tooShortAndTooLong() {
        checks.about("EXPRESSIONS are prefix lists of 1 to 48 tokens");
        int[] parts = {0, 0, 1, 2, 1, 2, 1, 2, 3, 2, 2, 2, 1, 1, 2, 2, 1, 1, 0};
        for (int kind = 0; kind < 19; kind++) {
            BindingLisp x = new BindingLisp();
            x.token(kind, 0);
            for (int part = 0; part < parts[kind]; part++) {
                checks.same("run() of kind " + kind + " with " + part, x.run(), BindingLisp.SYNTAX);
                checks.no("define of kind " + kind + " with " + part, x.define(0, 0));
                x.token(0, 1);
            }
            checks.yes("run() of kind " + kind, x.run() != BindingLisp.SYNTAX);
            x.token(0, 1);
            checks.same("run() of kind " + kind + " with one more", x.run(), BindingLisp.SYNTAX);
            checks.no("define of kind " + kind + " with one more", x.define(0, 0));
        }
        BindingLisp x = new BindingLisp();
        Checks.write(x, "CATCH 0 ".repeat(48));
        checks.same("run() of 48 tokens without an end", x.run(), BindingLisp.SYNTAX);
        Checks.write(x, "1 ".repeat(48));
        checks.same("run() of 48 expressions", x.run(), BindingLisp.SYNTAX);
        Checks.write(x, "CATCH 0 ".repeat(46) + "1 1");
        checks.same("run() of 48 tokens, one too many", x.run(), BindingLisp.SYNTAX);
    }

    /** As many parts as the tokens need, but not behind them. */
    private void inTheWrongOrder() {
        checks.about("EXPRESSIONS are prefix lists");
        String[] wrong = {
            "5 SET a", "1 ADD 2", "1 2 ADD", "a LOCAL b", "ERROR CATCH 0", "1 IF 2 3", "1 2 IF 3", "1 2 3 IF",
            "SET a 1 SET b", "ADD 1 2 SUB 3", "FUN a a THROW 1", "1 " + "BUFFER 0 ".repeat(47),
            "1 ".repeat(24) + "ADD ".repeat(23)
        };
        for (String words : wrong) {
            BindingLisp x = new BindingLisp();
            Checks.write(x, words);
            checks.same("run() of " + words, x.run(), BindingLisp.SYNTAX);
            checks.no("define(0, 0) of " + words, x.define(0, 0));
            checks.globalIs(x, words, 0, BindingLisp.NOTHING);
            checks.same("steps()", x.steps(), 0);
            checks.yes("wipe() of " + words, x.wipe() > 0);
        }
    }

    // Tokens

    private void num() {
        checks.about("NUM n: the int");
        BindingLisp x = new BindingLisp();
        for (int n : new int[] {LOW, LOW + 1, -2, -1, 0, 1, 2, 255, 256, 65536, HIGH - 1, HIGH}) {
            checks.gives(x, "" + n, n);
        }
    }

    private void setGives() {
        checks.about("SET s, E: s gets the value of E, which it gives");
        for (int s = 0; s < 8; s++) {
            BindingLisp x = new BindingLisp();
            checks.gives(x, "ADD 1 SET " + s + " 4", 5);
            checks.globalIs(x, "SET", s, 4);
            checks.ends(x, "SET " + s + " ERROR", BindingLisp.ERROR);
            checks.globalIs(x, "a SET whose E ended", s, 4);
        }
    }

    private void funIsNotWorkedOut() {
        checks.about("FUN s, E: a closure with the parameter s and the body E");
        BindingLisp x = new BindingLisp();
        checks.gives(x, "SEQ FUN a SET b 1 2", 2);
        checks.globalIs(x, "FUN", 1, BindingLisp.NOTHING);
        checks.same("steps()", x.steps(), 3);
        checks.gives(x, "SEQ FUN a ERROR 2", 2);
        for (int s = 0; s < 8; s++) {
            checks.gives(x, "CALL FUN " + s + " ADD 1 VAR " + s + " 7", 8);
        }
    }

    private void named() {
        checks.about("NAMED k, E: function k (0..3) is called with E");
        BindingLisp x = new BindingLisp();
        for (int k = 0; k < 4; k++) {
            checks.define(x, k, k, "SUB VAR " + k + " " + k);
        }
        for (int k = 0; k < 4; k++) {
            checks.gives(x, "NAMED " + k + " 10", 10 - k);
        }
    }

    private void choice() {
        checks.about("IF, E, F, G: F if E is not the int 0, else G");
        BindingLisp x = new BindingLisp();
        checks.gives(x, "IF 0 4 5", 5);
        for (int n : new int[] {LOW, -1, 1, 2, 256, 65536, HIGH}) {
            checks.gives(x, "IF " + n + " 4 5", 4);
        }
        checks.gives(x, "IF FUN a 0 4 5", 4);
        checks.gives(x, "IF ADD " + LOW + " " + LOW + " 4 5", 5);
        checks.gives(x, "IF SUB 3 3 4 5", 5);
        checks.gives(x, "IF LESS 3 3 4 5", 5);
    }

    private void sumsWrap() {
        checks.about("ADD and SUB wrap");
        int[] edges = {LOW, LOW + 1, -1, 0, 1, HIGH - 1, HIGH};
        for (int n : edges) {
            BindingLisp x = new BindingLisp();
            for (int m : edges) {
                checks.gives(x, "ADD " + n + " " + m, n + m);
                checks.gives(x, "SUB " + n + " " + m, n - m);
            }
        }
        BindingLisp x = new BindingLisp();
        checks.gives(x, "ADD 2147483647 1", -2147483648L);
        checks.gives(x, "ADD -2147483648 -1", 2147483647L);
        checks.gives(x, "SUB -2147483648 1", 2147483647L);
        checks.gives(x, "SUB 2147483647 -1", -2147483648L);
        checks.gives(x, "SUB 0 -2147483648", -2147483648L);
        checks.gives(x, "LESS ADD 2147483647 1 0", 1);
        checks.gives(x, "SET a ADD 2147483647 2147483647", -2);
        checks.globalIs(x, "SET of a sum that wraps", 0, -2);
    }

    private void lessDoesNotWrap() {
        checks.about("LESS, E, F: 1 or 0");
        int[] rising = {LOW, LOW + 1, -1, 0, 1, HIGH - 1, HIGH};
        for (int i = 0; i < rising.length; i++) {
            BindingLisp x = new BindingLisp();
            for (int j = 0; j < rising.length; j++) {
                checks.gives(x, "LESS " + rising[i] + " " + rising[j], i < j ? 1 : 0);
            }
        }
    }

    private void catchAndThrow() {
        checks.about("CATCH t, E: E; if it THROWs to t (0..3), what is thrown");
        for (int t = 0; t < 4; t++) {
            BindingLisp x = new BindingLisp();
            checks.gives(x, "CATCH " + t + " 5", 5);
            for (int u = 0; u < 4; u++) {
                if (t == u) {
                    checks.gives(x, "ADD 1 CATCH " + t + " ADD 10 THROW " + u + " 5", 6);
                } else {
                    checks.ends(x, "CATCH " + t + " THROW " + u + " 5", BindingLisp.MISSING);
                    checks.gives(x, "CATCH " + u + " ADD 1 CATCH " + t + " THROW " + u + " 5", 5);
                }
            }
        }
    }

    private void tryAndProtect() {
        checks.about("TRY, E, F: E; if it ends with an ERROR, F   PROTECT, E, F: E; F is done after it");
        BindingLisp x = new BindingLisp();
        checks.gives(x, "TRY 0 SET a 5", 0);
        checks.globalIs(x, "TRY", 0, BindingLisp.NOTHING);
        checks.gives(x, "CATCH 0 TRY THROW 0 1 SET a 5", 1);
        checks.globalIs(x, "TRY of a throw", 0, BindingLisp.NOTHING);
        checks.gives(x, "PROTECT 0 SET a 5", 0);
        checks.globalIs(x, "PROTECT", 0, 5);
        checks.gives(x, "PROTECT SET b 1 SET a b", 1);
        checks.globalIs(x, "PROTECT", 0, 1);
        for (String error : new String[] {"VAR h", "CALL 1 1", "NAMED 0 1", "THROW 1 1", "ERROR"}) {
            checks.gives(x, "TRY " + error + " 8", 8);
        }
    }

    private void bufferEdges() {
        checks.about("BUFFER b, E: E in buffer b, 0..2");
        for (int b = 0; b < 3; b++) {
            BindingLisp x = new BindingLisp();
            checks.gives(x, "BUFFER " + b + " LOCAL a 5", 5);
            for (int other = 0; other < 3; other++) {
                if (other == b) {
                    checks.localIs(x, "LOCAL", other, 0, 5);
                } else {
                    checks.noLocal(x, "LOCAL in another buffer", other, 0);
                    checks.ends(x, "BUFFER " + other + " a", BindingLisp.VOID);
                }
            }
        }
    }

    private void localEdges() {
        checks.about("LOCAL s, E: s has a local place in the present buffer (a new one if it has none)");
        BindingLisp x = new BindingLisp();
        x.set(0, 1);
        checks.gives(x, "ADD 1 LOCAL a 4", 5);
        checks.localIs(x, "LOCAL", 0, 0, 4);
        checks.gives(x, "LOCAL a ADD a 1", 5);
        checks.localIs(x, "LOCAL of a place that is there", 0, 0, 5);
        checks.globalIs(x, "LOCAL", 0, 1);
        checks.gives(x, "BUFFER 1 LOCAL a ADD a 1", 2);
        checks.ends(x, "BUFFER 2 LOCAL a ERROR", BindingLisp.ERROR);
        checks.noLocal(x, "a LOCAL whose E ended", 2, 0);
        checks.ends(x, "LOCAL a ERROR", BindingLisp.ERROR);
        checks.localIs(x, "a LOCAL whose E ended", 0, 0, 5);
        x.kill(0, 0);
        checks.ends(x, "SEQ LOCAL a 8 ERROR", BindingLisp.ERROR);
        checks.localIs(x, "a LOCAL before an error", 0, 0, 8);
    }

    private void errorIsOne() {
        checks.about("ERROR: is one, code 4");
        BindingLisp x = new BindingLisp();
        checks.ends(x, "ERROR", 4);
        x.wipe();
        x.token(18, HIGH);
        checks.same("run() of ERROR with a value", x.run(), 4);
    }

    private void neededParts() {
        checks.about("Each E, F, G is worked out when it is needed, in this order");
        BindingLisp x = new BindingLisp();
        x.set(0, 0);
        checks.gives(x, "IF 1 SET a ADD a 1 SET a ADD a 10", 1);
        checks.gives(x, "IF 0 SET a ADD a 1 SET a ADD a 10", 11);
        checks.globalIs(x, "IF", 0, 11);
        checks.same("steps() of IF", x.steps(), 6);
        checks.gives(x, "TRY 1 SET a 5", 1);
        checks.same("steps() of TRY", x.steps(), 2);
        checks.ends(x, "ADD ERROR SET a 5", BindingLisp.ERROR);
        checks.ends(x, "SEQ ERROR SET a 5", BindingLisp.ERROR);
        checks.ends(x, "LET b ERROR SET a 5", BindingLisp.ERROR);
        checks.ends(x, "CALL ERROR SET a 5", BindingLisp.ERROR);
        checks.ends(x, "IF ERROR SET a 5 SET a 6", BindingLisp.ERROR);
        checks.globalIs(x, "parts behind an error", 0, 11);
        checks.gives(x, "SEQ SET a 3 SET a ADD a a", 6);
        checks.gives(x, "SUB SET a 3 SET a ADD a a", -3);
        checks.gives(x, "LESS SET a 3 SET a ADD a a", 1);
    }

    private void stepBeforeParts() {
        checks.about("before them the token takes a STEP");
        BindingLisp x = new BindingLisp();
        for (int deep = 0; deep <= 47; deep++) {
            x = new BindingLisp();
            checks.ends(x, "CATCH 0 ".repeat(deep) + "ERROR", BindingLisp.ERROR);
            checks.same("steps() of " + deep + " tokens and an ERROR", x.steps(), deep + 1);
        }
        checks.ends(x, "NAMED 0 1", BindingLisp.MISSING);
        checks.same("steps() of NAMED with no such function", x.steps(), 2);
        checks.ends(x, "THROW 0 1", BindingLisp.MISSING);
        checks.same("steps() of THROW with no CATCH", x.steps(), 2);
        checks.ends(x, "CALL 1 1", BindingLisp.TYPE);
        checks.same("steps() of CALL of an int", x.steps(), 3);
    }

    // Errors

    private void voidError() {
        checks.about("1 VOID: a VAR whose place is void");
        for (int s = 0; s < 8; s++) {
            BindingLisp x = new BindingLisp();
            checks.ends(x, "VAR " + s, 1);
            x.set(s, 0);
            checks.gives(x, "VAR " + s, 0);
            checks.ends(x, "VAR " + (s + 1) % 8, 1);
            checks.gives(x, "TRY VAR " + (s + 1) % 8 + " 6", 6);
        }
        BindingLisp x = new BindingLisp();
        checks.gives(x, "SEQ SET a 1 LOCAL b 2", 2);
        checks.ends(x, "BUFFER 1 b", 1);
        checks.gives(x, "SEQ a b", 2);
    }

    private void typeErrors() {
        checks.about("2 TYPE: ADD, SUB or LESS of a closure (when both are worked out), CALL of an int");
        for (String kind : new String[] {"ADD", "SUB", "LESS", "CALL"}) {
            BindingLisp x = new BindingLisp();
            String wrong = kind.equals("CALL") ? "0" : "FUN a a";
            checks.ends(x, kind + " " + wrong + " SET b 5", 2);
            checks.globalIs(x, kind, 1, 5);
            checks.same("steps()", x.steps(), 4);
            checks.ends(x, kind + " " + wrong + " ERROR", 4);
            checks.ends(x, kind + " " + wrong + " h", 1);
            checks.gives(x, "CATCH 0 " + kind + " " + wrong + " THROW 0 7", 7);
            checks.gives(x, "TRY " + kind + " " + wrong + " 1 6", 6);
            if (!kind.equals("CALL")) {
                checks.ends(x, kind + " 1 FUN a a", 2);
                checks.ends(x, kind + " FUN a a FUN a a", 2);
            }
        }
        BindingLisp x = new BindingLisp();
        checks.ends(x, "CALL -1 FUN a a", 2);
        checks.ends(x, "CALL 2147483647 1", 2);
        checks.ends(x, "CALL -2147483648 1", 2);
        checks.ends(x, "LET a FUN b b ADD a 1", 2);
    }

    private void missingFunction() {
        checks.about("3 MISSING: NAMED with no such function (when E is worked out)");
        for (int k = 0; k < 4; k++) {
            BindingLisp x = new BindingLisp();
            checks.ends(x, "NAMED " + k + " SET a 5", 3);
            checks.globalIs(x, "NAMED", 0, 5);
            checks.ends(x, "NAMED " + k + " ERROR", 4);
            checks.gives(x, "CATCH 0 NAMED " + k + " THROW 0 7", 7);
            checks.gives(x, "TRY NAMED " + k + " 1 6", 6);
            checks.define(x, (k + 1) % 4, 0, "a");
            checks.ends(x, "NAMED " + k + " 1", 3);
            checks.define(x, k, 0, "a");
            checks.gives(x, "NAMED " + k + " 1", 1);
        }
    }

    private void missingCatch() {
        checks.about("3 MISSING: THROW with no CATCH of t at work (when E is)");
        for (int t = 0; t < 4; t++) {
            BindingLisp x = new BindingLisp();
            String thrown = "THROW " + t + " ";
            checks.ends(x, thrown + "SET a 5", 3);
            checks.globalIs(x, "THROW", 0, 5);
            checks.ends(x, thrown + "ERROR", 4);
            checks.gives(x, "TRY " + thrown + "1 6", 6);
            checks.ends(x, "SEQ CATCH " + t + " 1 " + thrown + "1", 3);
            checks.ends(x, "CALL CATCH " + t + " FUN a " + thrown + "a 1", 3);
            checks.ends(x, "CATCH " + (t + 1) % 4 + " CATCH " + (t + 2) % 4 + " " + thrown + "1", 3);
            checks.ends(x, thrown + "CATCH " + t + " 1", 3);
            checks.gives(x, "CATCH " + t + " " + thrown + thrown + "1", 1);
        }
    }
}
