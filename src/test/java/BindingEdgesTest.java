/** The boundary cases of BINDING under "Terms" and of promise 15, by sentence. */
public final class BindingEdgesTest {
    private static final String FOREVER = "CALL FUN e CALL e e FUN e CALL e e";
    /** What a LET or a call can end with, none of it about the symbol a. */
    private static final String[] ENDS = {"1", "FUN e e", "ERROR", "h", "THROW 0 1", "THROW 1 1", FOREVER};

    private final Checks checks = new Checks();

    public static void main(String[] args) {
        BindingEdgesTest test = new BindingEdgesTest();
        test.lexicalPlaceIsNew();
        test.furtherInsideWins();
        test.closuresKeepTheirPlaces();
        test.functionsSeeNoCaller();
        test.manyPlacesAround();
        test.localElseGlobal();
        test.specialHasNoPlaceAround();
        test.keptValueComesBack();
        test.keptVoidComesBack();
        test.thatVeryPlace();
        test.bufferIsZeroAtFirst();
        test.bufferBefore();
        test.bodyInTheBufferOfTheCall();
        test.setLooksLate();
        test.letLooksLate();
        test.callLooksLate();
        test.checks.end();
    }

    private static BindingLisp withSpecial(int s) {
        BindingLisp x = new BindingLisp();
        x.special(s, true);
        return x;
    }

    private void lexicalPlaceIsNew() {
        checks.about("If s is not special, LET, or the call of a closure or function with the parameter s, makes a new place");
        for (int s = 0; s < 8; s++) {
            BindingLisp x = new BindingLisp();
            String name = " " + s + " ";
            checks.define(x, 0, s, "SET" + name + "ADD VAR" + name + "1");
            String[] bindings = {
                "LET" + name + "5 SET" + name + "ADD VAR" + name + "1",
                "CALL FUN" + name + "SET" + name + "ADD VAR" + name + "1 5", "NAMED 0 5"
            };
            for (String words : bindings) {
                checks.gives(x, words, 6);
                checks.globalIs(x, words, s, BindingLisp.NOTHING);
                checks.ends(x, "SEQ " + words + " VAR" + name, BindingLisp.VOID);
            }
            x.set(s, 50);
            checks.gives(x, "LOCAL" + name + "60", 60);
            for (String words : bindings) {
                checks.gives(x, words, 6);
                checks.globalIs(x, words, s, 50);
                checks.localIs(x, words, 0, s, 60);
            }
        }
    }

    private void furtherInsideWins() {
        checks.about("that the expressions inside have for s, if none further inside is there");
        BindingLisp x = new BindingLisp();
        checks.gives(x, "LET a 1 LET a 2 LET a 3 a", 3);
        checks.gives(x, "LET a 1 SUB LET a 2 SET a 7 a", 6);
        checks.gives(x, "LET a 1 LET b 2 LET a 3 SUB a b", 1);
        checks.gives(x, "LET a 1 LET a ADD a 1 LET a ADD a a a", 4);
        checks.gives(x, "LET a 1 CALL FUN a SUB a 9 a", -8);
        checks.gives(x, "CALL FUN a LET a ADD a 1 a 5", 6);
        checks.ends(x, "LET a a 1", BindingLisp.VOID);
        checks.ends(x, "CALL FUN a 1 a", BindingLisp.VOID);
    }

    private void closuresKeepTheirPlaces() {
        checks.about("also those inside closures there, even when they are called later");
        BindingLisp x = new BindingLisp();
        checks.gives(x, "CALL LET a 5 FUN b ADD a b 2", 7);
        checks.gives(x, "LET c LET a 5 FUN b SET a ADD a b SEQ CALL c 1 CALL c 1", 7);
        checks.gives(x, "LET c LET a 5 FUN b a LET a 9 CALL c 1", 5);
        checks.gives(x, "SEQ SET c CATCH 0 LET a 5 THROW 0 FUN b a LET a 9 CALL c 1", 5);
        checks.gives(x, "SEQ TRY LET a 5 SEQ SET c FUN b a ERROR 1 LET a 9 CALL c 1", 5);
        checks.define(x, 0, 0, "FUN b ADD a b");
        checks.gives(x, "LET c NAMED 0 5 LET d NAMED 0 50 ADD CALL c 1 CALL d 1", 57);
        checks.gives(x, "CALL CALL CALL FUN a FUN b FUN c SUB a SUB b c 100 10 1", 91);
    }

    private void functionsSeeNoCaller() {
        checks.about("makes a new place for s that the expressions inside have for s");
        BindingLisp x = new BindingLisp();
        checks.define(x, 0, 1, "a");
        checks.ends(x, "LET a 5 NAMED 0 1", BindingLisp.VOID);
        checks.ends(x, "CALL FUN a NAMED 0 1 5", BindingLisp.VOID);
        checks.define(x, 1, 0, "NAMED 0 a");
        checks.ends(x, "NAMED 1 5", BindingLisp.VOID);
        x.set(0, 4);
        checks.gives(x, "LET a 5 NAMED 0 1", 4);
        checks.gives(x, "LET a 5 LET c FUN b a LET a 6 CALL c NAMED 0 1", 5);
    }

    /** As many places around a VAR as 48 tokens can make, and as many calls as 300 steps can. */
    private void manyPlacesAround() {
        checks.about("if none further inside is there");
        BindingLisp x = new BindingLisp();
        checks.gives(x, "LET a 7 " + "LET b 1 ".repeat(22) + "CATCH 0 a", 7);
        checks.gives(x, "LET a 7 " + "LET a ADD a 1 ".repeat(11) + "a", 18);
        checks.gives(x, "CALL ".repeat(15) + "FUN a " + "FUN b ".repeat(14) + "a 7 " + "1 ".repeat(14), 7);
        checks.define(x, 0, 0, "IF a ADD 1 NAMED 0 SUB a 1 0");
        checks.gives(x, "NAMED 0 36", 36);
        checks.same("steps()", x.steps(), 2 + 8 * 36 + 3);
        checks.ends(x, "NAMED 0 37", BindingLisp.LONG);
    }

    private void localElseGlobal() {
        checks.about("its PRESENT place: the local one in the present buffer if there is one, else the global one");
        for (int on = 0; on < 2; on++) {
            for (int b = 0; b < 3; b++) {
                BindingLisp x = new BindingLisp();
                x.special(0, on == 1);
                x.set(0, 4);
                String in = "BUFFER " + b + " ";
                checks.gives(x, in + "a", 4);
                checks.gives(x, in + "SET a 5", 5);
                checks.noLocal(x, "SET", b, 0);
                checks.globalIs(x, "SET", 0, 5);
                checks.gives(x, in + "LOCAL a 6", 6);
                checks.gives(x, in + "a", 6);
                checks.gives(x, in + "SET a 7", 7);
                checks.localIs(x, "SET", b, 0, 7);
                checks.globalIs(x, "SET", 0, 5);
                checks.gives(x, "BUFFER " + (b + 1) % 3 + " a", 5);
            }
        }
    }

    private void specialHasNoPlaceAround() {
        checks.about("A VAR or SET of a symbol that is special is about its PRESENT place");
        for (int s = 0; s < 8; s++) {
            BindingLisp x = withSpecial(s);
            int other = (s + 1) % 8;
            checks.define(x, 0, other, "SET " + s + " ADD VAR " + s + " 1");
            checks.gives(x, "LET " + s + " 5 SEQ NAMED 0 1 VAR " + s, 6);
            checks.gives(x, "CALL FUN " + s + " SEQ NAMED 0 1 VAR " + s + " 5", 6);
            checks.ends(x, "CALL LET " + s + " 5 FUN " + other + " VAR " + s + " 1", BindingLisp.VOID);
            checks.gives(x, "SEQ LOCAL " + s + " 3 LET " + s + " 5 BUFFER 1 TRY VAR " + s + " 9", 9);
        }
    }

    private void keptValueComesBack() {
        checks.about("when what is inside ends, whichever way, that very place gets the kept value back");
        for (String end : ENDS) {
            for (int in = 0; in < 2; in++) {
                BindingLisp x = withSpecial(0);
                x.set(0, 4);
                if (in == 1) {
                    checks.gives(x, "LOCAL a 5", 5);
                }
                checks.define(x, 0, 0, "SEQ SET a ADD a 1 " + end);
                String[] bindings = {"LET a 8 " + end, "LET a 8 SEQ SET a 9 " + end, "CALL FUN a " + end + " 8", "NAMED 0 8",
                    "LET a 7 LET a 8 LET a 9 " + end};
                for (String words : bindings) {
                    Checks.write(x, "CATCH 0 " + words);
                    x.run();
                    checks.globalIs(x, words, 0, 4);
                    if (in == 1) {
                        checks.localIs(x, words, 0, 0, 5);
                    } else {
                        checks.noLocal(x, words, 0, 0);
                    }
                    checks.gives(x, "a", 4 + in);
                }
            }
        }
        checks.gives(withSpecial(0), "LET a 1 ADD TRY LET a 2 ERROR 10 a", 11);
        checks.gives(withSpecial(0), "LET a 1 ADD CATCH 0 LET a 2 LET a 3 THROW 0 10 a", 11);
    }

    private void keptVoidComesBack() {
        checks.about("keeps the value (or void) of its present place, that very place gets the kept value (or void) back");
        for (String end : ENDS) {
            BindingLisp x = withSpecial(0);
            String[] bindings = {"LET a 8 " + end, "CALL FUN a " + end + " 8", "LET a 8 SEQ SET a 9 " + end};
            for (String words : bindings) {
                Checks.write(x, "CATCH 0 " + words);
                x.run();
                checks.globalIs(x, words, 0, BindingLisp.NOTHING);
                checks.ends(x, "a", BindingLisp.VOID);
            }
            x.set(0, 4);
            Checks.write(x, "LOCAL a FUN b b");
            x.run();
            for (String words : bindings) {
                Checks.write(x, "CATCH 0 " + words);
                x.run();
                checks.localIs(x, words, 0, 0, BindingLisp.NOTHING);
                checks.globalIs(x, words, 0, 4);
            }
        }
        checks.ends(withSpecial(0), "SEQ LET a 5 1 a", BindingLisp.VOID);
        checks.gives(withSpecial(0), "LET a 5 SEQ LET a 6 1 a", 5);
    }

    private void thatVeryPlace() {
        checks.about("that very place gets the kept value (or void) back");
        for (String end : ENDS) {
            BindingLisp x = withSpecial(0);
            x.set(0, 4);
            Checks.write(x, "CATCH 0 LET a 5 SEQ LOCAL a 9 " + end);
            x.run();
            checks.globalIs(x, "LOCAL inside LET, " + end, 0, 4);
            checks.localIs(x, "LOCAL inside LET, " + end, 0, 0, 9);
            Checks.write(x, "CATCH 0 LET a 5 BUFFER 1 SEQ LOCAL a 6 SEQ BUFFER 2 SET a 7 " + end);
            x.run();
            checks.localIs(x, "LET of a local place, " + end, 0, 0, 9);
            checks.localIs(x, "LOCAL in another buffer, " + end, 1, 0, 6);
            checks.globalIs(x, "SET in another buffer, " + end, 0, 7);
        }
    }

    private void bufferIsZeroAtFirst() {
        checks.about("The present buffer is 0 when a run begins");
        for (int b = 0; b < 3; b++) {
            for (String end : ENDS) {
                BindingLisp x = new BindingLisp();
                Checks.write(x, "BUFFER " + b + " " + end);
                x.run();
                checks.gives(x, "LOCAL a 5", 5);
                checks.localIs(x, "a run that ended in buffer " + b + " with " + end, 0, 0, 5);
                checks.noLocal(x, "a run that ended in buffer " + b + " with " + end, 1, 0);
                checks.noLocal(x, "a run that ended in buffer " + b + " with " + end, 2, 0);
            }
        }
    }

    private void bufferBefore() {
        checks.about("BUFFER sets it, and when E ends, whichever way, the one before is present again");
        String[] ends = {"1", "ERROR", "h", "THROW 0 1", "THROW 1 1"};
        for (int outer = 0; outer < 3; outer++) {
            for (int inner = 0; inner < 3; inner++) {
                for (String end : ends) {
                    BindingLisp x = new BindingLisp();
                    String words = "BUFFER " + outer + " SEQ TRY CATCH 0 BUFFER " + inner + " BUFFER 1 " + end + " 2 LOCAL a 5";
                    checks.gives(x, words, 5);
                    for (int b = 0; b < 3; b++) {
                        checks.same("isLocal(" + b + ", 0) after " + words, x.isLocal(b, 0) ? 1 : 0, b == outer ? 1 : 0);
                    }
                }
            }
        }
    }

    private void bodyInTheBufferOfTheCall() {
        checks.about("A body is worked out in the buffer that is present at the call.");
        for (int b = 0; b < 3; b++) {
            for (int made = 0; made < 3; made++) {
                BindingLisp x = new BindingLisp();
                checks.define(x, 0, 1, "LOCAL a b");
                checks.gives(x, "LET c BUFFER " + made + " FUN b LOCAL a b BUFFER " + b + " CALL c 5", 5);
                onlyIn(x, b, 5);
                checks.gives(x, "BUFFER " + b + " NAMED 0 BUFFER " + made + " 6", 6);
                onlyIn(x, b, 6);
                checks.gives(x, "BUFFER " + b + " CALL BUFFER " + made + " FUN b LOCAL a b BUFFER " + made + " 7", 7);
                onlyIn(x, b, 7);
            }
        }
    }

    private void onlyIn(BindingLisp x, int b, int v) {
        for (int other = 0; other < 3; other++) {
            if (other == b) {
                checks.localIs(x, "a call in buffer " + b, other, 0, v);
            } else {
                checks.noLocal(x, "a call in buffer " + b, other, 0);
            }
        }
        checks.globalIs(x, "a call in buffer " + b, 0, BindingLisp.NOTHING);
    }

    // Promise 15

    private void setLooksLate() {
        checks.about("SET looks for the present place of its symbol when its E has been worked out");
        for (int b = 0; b < 3; b++) {
            for (int on = 0; on < 2; on++) {
                BindingLisp x = new BindingLisp();
                x.special(0, on == 1);
                x.set(0, 4);
                checks.gives(x, "BUFFER " + b + " SET a SEQ LOCAL a 5 6", 6);
                checks.localIs(x, "SET", b, 0, 6);
                checks.globalIs(x, "SET", 0, 4);
                x.kill(b, 0);
                checks.gives(x, "SET a BUFFER " + (b + 1) % 3 + " SEQ LOCAL a 5 6", 6);
                checks.localIs(x, "SET", (b + 1) % 3, 0, b == 2 ? 6 : 5);
                checks.globalIs(x, "SET", 0, b == 2 ? 4 : 6);
            }
        }
    }

    private void letLooksLate() {
        checks.about("LET looks for the present place of its symbol when its E has been worked out");
        for (int b = 0; b < 3; b++) {
            BindingLisp x = withSpecial(0);
            String other = "BUFFER " + (b + 1) % 3;
            x.set(0, 4);
            checks.gives(x, "BUFFER " + b + " LET a SEQ LOCAL a 5 6 SUB a " + other + " a", 2);
            checks.localIs(x, "LET", b, 0, 5);
            checks.globalIs(x, "LET", 0, 4);
            x = withSpecial(0);
            x.set(0, 4);
            checks.gives(x, "BUFFER " + b + " LET a SEQ SET a 5 6 " + other + " a", 6);
            checks.globalIs(x, "SET inside the E of LET", 0, 5);
            checks.ends(x, "BUFFER " + b + " LET a SEQ LOCAL a 7 ERROR 1", BindingLisp.ERROR);
            checks.localIs(x, "the E of LET that ended", b, 0, 7);
            checks.globalIs(x, "the E of LET that ended", 0, 5);
        }
    }

    private void callLooksLate() {
        checks.about("a call looks for the present place of its symbol when its E (of a call F, too) has been worked out");
        for (int b = 0; b < 3; b++) {
            String in = "BUFFER " + b + " ";
            String body = "SUB a BUFFER " + (b + 1) % 3 + " a";
            String[] calls = {
                in + "CALL SEQ LOCAL a 5 FUN a " + body + " 6",
                in + "CALL FUN a " + body + " SEQ LOCAL a 5 6",
                in + "NAMED 0 SEQ LOCAL a 5 6"
            };
            for (String words : calls) {
                BindingLisp x = withSpecial(0);
                checks.define(x, 0, 0, body);
                x.set(0, 4);
                checks.gives(x, words, 2);
                checks.localIs(x, words, b, 0, 5);
                checks.globalIs(x, words, 0, 4);
            }
        }
        BindingLisp x = withSpecial(0);
        x.set(0, 4);
        checks.ends(x, "CALL 1 SEQ LOCAL a 5 6", BindingLisp.TYPE);
        checks.localIs(x, "CALL of an int", 0, 0, 5);
        checks.ends(x, "NAMED 0 SEQ LOCAL a 7 6", BindingLisp.MISSING);
        checks.localIs(x, "NAMED with no function", 0, 0, 7);
        checks.globalIs(x, "calls that were none", 0, 4);
    }
}
