/** The boundary cases of ENDING and LONG under "Terms", by sentence. */
public final class EndingEdgesTest {
    private static final String FOREVER = "CALL FUN e CALL e e FUN e CALL e e";

    private final Checks checks = new Checks();

    public static void main(String[] args) {
        EndingEdgesTest test = new EndingEdgesTest();
        test.ending();
        test.tooLong();
        test.checks.end();
    }

    private void ending() {
        innermostCatch();
        catchOutOfWork();
        innermostTry();
        tryOutOfWork();
        elseAll();
        protectionIsDone();
        protectionInBetween();
        protectionsFromTheInnermost();
        protectionValueIsForgotten();
        protectionThatThrows();
        protectionThatFails();
        protectionThatEndsInside();
        protectionAfterAll();
    }

    private void tooLong() {
        threeHundredAndOne();
        lastStepOfEachKind();
        errorsWithTheLastStep();
        caughtWithTheLastStep();
        partsThatComeTooLate();
        longGoesThroughAll();
        longWithoutProtection();
        longInsideProtection();
        longGivesBack();
        longKeepsWhatWasSet();
        longLeavesNothingBehind();
    }

    // ENDING

    private void innermostCatch() {
        checks.about("A THROW ends all expressions at work inside the innermost CATCH of t that is at work");
        for (int t = 0; t < 4; t++) {
            BindingLisp x = new BindingLisp();
            String to = "CATCH " + t + " ";
            String other = "CATCH " + (t + 1) % 4 + " ";
            String thrown = "THROW " + t + " ";
            checks.gives(x, to + "ADD 1 " + to + "ADD 10 " + thrown + "5", 6);
            checks.gives(x, to + "ADD 1 " + other + "ADD 10 " + thrown + "5", 5);
            checks.gives(x, "ADD 1 " + to + "ADD 10 " + other + "ADD 100 " + thrown + "5", 6);
            checks.gives(x, "ADD 1 " + to + "SEQ " + thrown + "5 SET a 1", 6);
            checks.gives(x, "ADD 1 " + to + "TRY " + thrown + "5 SET a 1", 6);
            checks.gives(x, "ADD 1 " + to + "LET b 2 CALL FUN c SET a " + thrown + "ADD b c 3", 6);
            checks.globalIs(x, "what a THROW ended", 0, BindingLisp.NOTHING);
            checks.gives(x, to + thrown + "0", 0);
        }
    }

    private void catchOutOfWork() {
        checks.about("the innermost CATCH of t that is at work");
        BindingLisp x = new BindingLisp();
        checks.define(x, 0, 0, "THROW 2 a");
        checks.ends(x, "NAMED 0 5", BindingLisp.MISSING);
        checks.gives(x, "ADD 1 CATCH 2 ADD 10 NAMED 0 5", 6);
        checks.ends(x, "SEQ CATCH 2 NAMED 0 5 NAMED 0 5", BindingLisp.MISSING);
        checks.ends(x, "CALL CATCH 2 FUN a THROW 2 a 5", BindingLisp.MISSING);
        checks.gives(x, "CATCH 2 ADD 1 CALL CATCH 2 FUN a THROW 2 a 5", 5);
        checks.ends(x, "ADD CATCH 2 THROW 2 1 THROW 2 2", BindingLisp.MISSING);
        checks.gives(x, "CATCH 2 ADD CATCH 2 THROW 2 1 THROW 2 2", 2);
        Checks.write(x, "CATCH 2 ERROR");
        x.run();
        checks.ends(x, "THROW 2 1", BindingLisp.MISSING);
        Checks.write(x, "CATCH 2 " + FOREVER);
        x.run();
        checks.ends(x, "THROW 2 1", BindingLisp.MISSING);
    }

    private void innermostTry() {
        checks.about("an ERROR those inside the innermost E of a TRY that is at work");
        for (String error : new String[] {"h", "CALL 1 1", "ADD 1 FUN b b", "NAMED 3 1", "THROW 3 1", "ERROR"}) {
            BindingLisp x = new BindingLisp();
            checks.gives(x, "TRY ADD 1 TRY ADD 10 " + error + " 5 7", 6);
            checks.gives(x, "ADD 1 TRY ADD 10 " + error + " 5", 6);
            checks.gives(x, "ADD 1 TRY CATCH 0 CATCH 1 ADD 10 " + error + " 5", 6);
            checks.gives(x, "ADD 1 TRY SEQ " + error + " SET a 1 5", 6);
            checks.gives(x, "ADD 1 TRY LET b 2 CALL FUN c SET a " + error + " 3 5", 6);
            checks.globalIs(x, "what an error ended", 0, BindingLisp.NOTHING);
        }
    }

    private void tryOutOfWork() {
        checks.about("the innermost E of a TRY that is at work");
        BindingLisp x = new BindingLisp();
        checks.ends(x, "TRY ERROR ERROR", BindingLisp.ERROR);
        checks.ends(x, "TRY ERROR a", BindingLisp.VOID);
        checks.ends(x, "TRY a ERROR", BindingLisp.ERROR);
        checks.gives(x, "TRY TRY ERROR ERROR 5", 5);
        checks.ends(x, "TRY ERROR TRY ERROR ERROR", BindingLisp.ERROR);
        checks.gives(x, "TRY ERROR TRY ERROR 5", 5);
        checks.ends(x, "SEQ TRY 1 2 ERROR", BindingLisp.ERROR);
        checks.ends(x, "SEQ TRY ERROR 2 ERROR", BindingLisp.ERROR);
        checks.ends(x, "CALL TRY FUN b ERROR 1 2", BindingLisp.ERROR);
        checks.gives(x, "CATCH 0 ADD 1 TRY ERROR THROW 0 5", 5);
    }

    private void elseAll() {
        checks.about("(else all)");
        BindingLisp x = new BindingLisp();
        checks.ends(x, "SEQ SET a 1 SEQ CATCH 0 LET b 2 ERROR SET a 2", BindingLisp.ERROR);
        checks.globalIs(x, "an ERROR without TRY", 0, 1);
        checks.same("steps()", x.steps(), 8);
        checks.ends(x, "IF CATCH 0 CATCH 1 CATCH 2 CATCH 3 h 1 2", BindingLisp.VOID);
    }

    private void protectionIsDone() {
        checks.about("if the E of a PROTECT is among them, its F is done then");
        String[] ends = {"ERROR", "h", "CALL 1 1", "NAMED 3 1", "THROW 3 1", "THROW 0 5"};
        int[] codes = {4, 1, 2, 3, 3, 0};
        for (int i = 0; i < ends.length; i++) {
            BindingLisp x = new BindingLisp();
            x.set(0, 10);
            Checks.write(x, "CATCH 0 PROTECT ADD 1 " + ends[i] + " SET a ADD a 1");
            checks.same("run() of PROTECT " + ends[i], x.run(), codes[i]);
            checks.globalIs(x, "PROTECT " + ends[i], 0, 11);
            Checks.write(x, "CATCH 0 TRY PROTECT ADD 1 " + ends[i] + " SET a ADD a 1 5");
            checks.same("run() of TRY PROTECT " + ends[i], x.run(), BindingLisp.OK);
            checks.same("result() of TRY PROTECT " + ends[i], x.result(), 5);
            checks.globalIs(x, "PROTECT " + ends[i], 0, 12);
        }
        BindingLisp x = new BindingLisp();
        checks.gives(x, "PROTECT CATCH 0 THROW 0 5 SET a 1", 5);
        checks.gives(x, "PROTECT TRY ERROR 5 SET b 1", 5);
        checks.globalIs(x, "PROTECT around CATCH", 0, 1);
        checks.globalIs(x, "PROTECT around TRY", 1, 1);
    }

    private void protectionInBetween() {
        checks.about("its F is done then, before what is around it ends");
        for (String end : new String[] {"ERROR", "THROW 0 1", "1"}) {
            BindingLisp x = new BindingLisp();
            x.special(0, true);
            x.set(0, 4);
            String words = "TRY CATCH 0 BUFFER 1 LET a 5 PROTECT BUFFER 2 LET a 6 " + end + " LOCAL b a 1";
            checks.gives(x, words, 1);
            checks.localIs(x, words, 1, 1, 5);
            checks.noLocal(x, words, 0, 1);
            checks.noLocal(x, words, 2, 1);
            checks.globalIs(x, words, 0, 4);
            checks.gives(x, "TRY CATCH 0 LET c 7 PROTECT LET c 8 " + end + " SET d c 1", 1);
            checks.globalIs(x, "the F of a PROTECT inside a LET", 3, 7);
        }
        checks.gives(new BindingLisp(), "CATCH 1 ADD 1 CATCH 0 PROTECT THROW 0 5 THROW 1 6", 6);
        checks.gives(new BindingLisp(), "ADD 1 CATCH 0 PROTECT THROW 0 5 CATCH 0 THROW 0 6", 6);
    }

    private void protectionsFromTheInnermost() {
        checks.about("from the innermost on");
        for (String end : new String[] {"ERROR", "THROW 0 1", "1"}) {
            BindingLisp x = new BindingLisp();
            x.set(0, 0);
            String words = "TRY CATCH 0 PROTECT PROTECT PROTECT " + end
                + " SET a ADD ADD a a 1 SET a ADD ADD a a 0 SET a ADD ADD a a 1 1";
            checks.gives(x, words, 1);
            checks.globalIs(x, words, 0, 5);
        }
    }

    private void protectionValueIsForgotten() {
        checks.about("and its value is forgotten");
        BindingLisp x = new BindingLisp();
        checks.gives(x, "CATCH 0 PROTECT THROW 0 5 6", 5);
        checks.gives(x, "CATCH 0 PROTECT THROW 0 5 FUN a a", 5);
        checks.gives(x, "CATCH 0 PROTECT PROTECT THROW 0 5 6 7", 5);
        checks.gives(x, "CATCH 0 PROTECT THROW 0 5 PROTECT 6 7", 5);
        checks.gives(x, "CALL CATCH 0 PROTECT THROW 0 FUN a ADD a 1 FUN a ADD a 2 5", 6);
        checks.ends(x, "PROTECT ERROR 6", BindingLisp.ERROR);
        checks.ends(x, "PROTECT a FUN a a", BindingLisp.VOID);
        checks.gives(x, "TRY PROTECT ERROR 6 7", 7);
    }

    private void protectionThatThrows() {
        checks.about("if F itself ends by a throw, that counts instead");
        BindingLisp x = new BindingLisp();
        checks.gives(x, "CATCH 0 PROTECT THROW 0 5 THROW 0 6", 6);
        checks.gives(x, "CATCH 0 PROTECT 5 THROW 0 6", 6);
        checks.gives(x, "CATCH 0 PROTECT ERROR THROW 0 6", 6);
        checks.gives(x, "CATCH 0 ADD 1 CATCH 1 PROTECT THROW 0 5 THROW 1 6", 7);
        checks.gives(x, "CATCH 0 ADD 1 CATCH 1 PROTECT THROW 1 5 THROW 0 6", 6);
        checks.gives(x, "CATCH 0 ADD 1 TRY PROTECT ERROR THROW 0 6 7", 6);
        checks.gives(x, "CATCH 0 PROTECT PROTECT THROW 0 5 THROW 0 6 THROW 0 7", 7);
        checks.gives(x, "CATCH 0 PROTECT THROW 0 5 PROTECT THROW 0 6 8", 6);
    }

    private void protectionThatFails() {
        checks.about("if F itself ends by an error, that counts instead");
        BindingLisp x = new BindingLisp();
        checks.ends(x, "PROTECT 5 ERROR", BindingLisp.ERROR);
        checks.ends(x, "PROTECT ERROR a", BindingLisp.VOID);
        checks.ends(x, "PROTECT a ERROR", BindingLisp.ERROR);
        checks.ends(x, "PROTECT ERROR THROW 0 1", BindingLisp.MISSING);
        checks.ends(x, "PROTECT ERROR CALL 1 1", BindingLisp.TYPE);
        checks.ends(x, "CATCH 0 PROTECT THROW 0 5 ERROR", BindingLisp.ERROR);
        checks.gives(x, "TRY PROTECT 5 ERROR 6", 6);
        checks.gives(x, "CATCH 0 ADD 1 TRY PROTECT THROW 0 5 ERROR 6", 7);
        checks.ends(x, "PROTECT PROTECT ERROR a CALL 1 1", BindingLisp.TYPE);
        checks.ends(x, "PROTECT CATCH 0 5 THROW 0 1", BindingLisp.MISSING);
        checks.ends(x, "PROTECT TRY 5 6 ERROR", BindingLisp.ERROR);
    }

    /** What F ends within itself does not count. */
    private void protectionThatEndsInside() {
        checks.about("if F itself ends by a throw or an error, that counts instead");
        BindingLisp x = new BindingLisp();
        checks.gives(x, "CATCH 0 PROTECT THROW 0 5 TRY ERROR 6", 5);
        checks.gives(x, "CATCH 0 PROTECT THROW 0 5 CATCH 1 THROW 1 6", 5);
        checks.ends(x, "PROTECT ERROR TRY a 6", BindingLisp.ERROR);
        checks.ends(x, "PROTECT a CATCH 0 THROW 0 6", BindingLisp.VOID);
        checks.gives(x, "PROTECT 5 TRY ERROR 6", 5);
        checks.gives(x, "CATCH 0 PROTECT THROW 0 5 TRY PROTECT ERROR SET a 1 6", 5);
        checks.globalIs(x, "a PROTECT inside an F", 0, 1);
    }

    private void protectionAfterAll() {
        checks.about("When E ends as it should, F is done, too, and the value is that of E.");
        BindingLisp x = new BindingLisp();
        checks.gives(x, "PROTECT 0 SET a 1", 0);
        checks.globalIs(x, "PROTECT", 0, 1);
        checks.gives(x, "PROTECT SET a 2 SET a 3", 2);
        checks.globalIs(x, "PROTECT", 0, 3);
        checks.gives(x, "CALL PROTECT FUN b ADD b 1 FUN b ADD b 2 5", 6);
        checks.gives(x, "PROTECT PROTECT 1 2 3", 1);
        checks.gives(x, "PROTECT 1 PROTECT 2 3", 1);
        checks.gives(x, "PROTECT 5 FUN b b", 5);
    }

    // LONG

    /** Function 0 is there for burn; b is special, all places are void. */
    private BindingLisp burner() {
        BindingLisp x = new BindingLisp();
        x.special(1, true);
        checks.define(x, 0, 0, "IF a NAMED 0 SUB a 1 SEQ 0 0");
        return x;
    }

    /** An expression that takes just so many steps, from 7 on: 6 for each count, and 7 for 0. */
    private static String burn(int steps) {
        return "CATCH 3 ".repeat((steps - 7) % 6) + "NAMED 0 " + (steps - 7) / 6 + " ";
    }

    private void threeHundredAndOne() {
        checks.about("LONG: a 301st step would be taken");
        for (int steps = 290; steps <= 310; steps++) {
            String words = burn(steps);
            if (steps <= 300) {
                checks.gives(stepped(words, steps), words, 0);
            } else {
                checks.ends(stepped(words, 300), words, BindingLisp.LONG);
            }
        }
    }

    private BindingLisp stepped(String words, int steps) {
        BindingLisp x = burner();
        checks.takes(x, words, steps);
        return x;
    }

    private void lastStepOfEachKind() {
        checks.about("LONG: a 301st step would be taken");
        BindingLisp x = burner();
        x.set(2, 7);
        String before = "SEQ " + burn(298);
        checks.gives(x, before + "5", 5);
        checks.same("steps()", x.steps(), 300);
        checks.gives(x, before + "c", 7);
        checks.same("steps()", x.steps(), 300);
        Checks.write(x, before + "FUN c c");
        checks.same("run() with FUN as the last step", x.run(), BindingLisp.OK);
        checks.yes("closure()", x.closure());
        String[] deeper = {"SET d 1", "LET d 1 2", "CALL 1 2", "NAMED 1 1", "SEQ 1 2", "IF 1 2 3", "ADD 1 2", "SUB 1 2",
            "LESS 1 2", "CATCH 0 1", "THROW 0 1", "TRY 1 2", "PROTECT 1 2", "BUFFER 1 2", "LOCAL d 1"};
        for (String words : deeper) {
            checks.ends(x, before + words, BindingLisp.LONG);
            checks.same("steps() of " + words, x.steps(), 300);
        }
        checks.globalIs(x, "a SET without its E", 3, BindingLisp.NOTHING);
        checks.noLocal(x, "a LOCAL without its E", 0, 3);
    }

    /** An error needs no step of its own. */
    private void errorsWithTheLastStep() {
        checks.about("LONG: a 301st step would be taken");
        BindingLisp x = burner();
        checks.ends(x, "SEQ " + burn(298) + "ERROR", BindingLisp.ERROR);
        checks.same("steps()", x.steps(), 300);
        checks.ends(x, "SEQ " + burn(298) + "h", BindingLisp.VOID);
        checks.ends(x, "SEQ " + burn(296) + "ADD FUN a a 1", BindingLisp.TYPE);
        checks.ends(x, "SEQ " + burn(296) + "CALL 1 1", BindingLisp.TYPE);
        checks.ends(x, "SEQ " + burn(297) + "NAMED 1 1", BindingLisp.MISSING);
        checks.ends(x, "SEQ " + burn(297) + "THROW 0 1", BindingLisp.MISSING);
        checks.same("steps()", x.steps(), 300);
        checks.ends(x, "SEQ " + burn(299) + "ERROR", BindingLisp.LONG);
        checks.ends(x, "SEQ " + burn(297) + "ADD FUN a a 1", BindingLisp.LONG);
        checks.ends(x, "SEQ " + burn(298) + "NAMED 1 1", BindingLisp.LONG);
    }

    private void caughtWithTheLastStep() {
        checks.about("LONG: a 301st step would be taken");
        BindingLisp x = burner();
        checks.gives(x, "CATCH 0 SEQ " + burn(296) + "THROW 0 5", 5);
        checks.same("steps()", x.steps(), 300);
        checks.ends(x, "CATCH 0 SEQ " + burn(297) + "THROW 0 5", BindingLisp.LONG);
        checks.gives(x, "TRY SEQ " + burn(296) + "ERROR 5", 5);
        checks.same("steps()", x.steps(), 300);
        checks.ends(x, "TRY SEQ " + burn(297) + "ERROR 5", BindingLisp.LONG);
        checks.gives(x, "SET d SEQ " + burn(297) + "5", 5);
        checks.globalIs(x, "a SET whose E took the last step", 3, 5);
        checks.gives(x, "LOCAL d SEQ " + burn(297) + "6", 6);
        checks.localIs(x, "a LOCAL whose E took the last step", 0, 3, 6);
        checks.gives(x, "PROTECT " + burn(297) + "SET e 5", 0);
        checks.globalIs(x, "an F that took the last step", 4, 5);
    }

    private void partsThatComeTooLate() {
        checks.about("the run ends at once");
        BindingLisp x = burner();
        checks.ends(x, "SEQ " + burn(299) + "SET d 1", BindingLisp.LONG);
        checks.ends(x, "IF " + burn(299) + "1 SET d 1", BindingLisp.LONG);
        checks.ends(x, "ADD " + burn(299) + "SET d 1", BindingLisp.LONG);
        checks.ends(x, "LET b " + burn(299) + "SET d 1", BindingLisp.LONG);
        checks.ends(x, "LET c " + burn(299) + "SET d 1", BindingLisp.LONG);
        checks.ends(x, "CALL FUN b SET d 1 " + burn(298), BindingLisp.LONG);
        checks.same("steps()", x.steps(), 300);
        checks.globalIs(x, "parts that came too late", 3, BindingLisp.NOTHING);
        checks.globalIs(x, "a LET whose F came too late", 1, BindingLisp.NOTHING);
        checks.ends(x, "SET d SEQ " + burn(298) + "1", BindingLisp.LONG);
        checks.ends(x, "LOCAL d SEQ " + burn(298) + "1", BindingLisp.LONG);
        checks.globalIs(x, "a SET around a long E", 3, BindingLisp.NOTHING);
        checks.noLocal(x, "a LOCAL around a long E", 0, 3);
    }

    private void longGoesThroughAll() {
        checks.about("the run ends at once");
        BindingLisp x = new BindingLisp();
        checks.ends(x, "TRY " + FOREVER + " SET a 1", BindingLisp.LONG);
        checks.ends(x, "TRY TRY " + FOREVER + " SET a 1 SET a 1", BindingLisp.LONG);
        checks.ends(x, "CATCH 0 CATCH 1 CATCH 2 CATCH 3 " + FOREVER, BindingLisp.LONG);
        checks.ends(x, "TRY ERROR " + FOREVER, BindingLisp.LONG);
        checks.ends(x, "CATCH 0 TRY BUFFER 1 LET b 1 " + FOREVER + " SET a 1", BindingLisp.LONG);
        checks.same("steps()", x.steps(), 300);
        checks.globalIs(x, "a TRY around a long E", 0, BindingLisp.NOTHING);
    }

    private void longWithoutProtection() {
        checks.about("without any F of a PROTECT");
        BindingLisp x = burner();
        checks.ends(x, "PROTECT " + FOREVER + " SET d 1", BindingLisp.LONG);
        checks.ends(x, "PROTECT PROTECT " + FOREVER + " SET d 1 SET d 1", BindingLisp.LONG);
        checks.ends(x, "PROTECT " + burn(299) + "SET d 1", BindingLisp.LONG);
        checks.ends(x, "TRY PROTECT " + burn(298) + "SET d 1 2", BindingLisp.LONG);
        checks.ends(x, "TRY PROTECT SEQ " + burn(296) + "ERROR SET d 1 2", BindingLisp.LONG);
        checks.ends(x, "CATCH 0 PROTECT SEQ " + burn(295) + "THROW 0 1 SET d 1", BindingLisp.LONG);
        checks.globalIs(x, "a PROTECT in a long run", 3, BindingLisp.NOTHING);
        checks.ends(x, "PROTECT " + burn(298) + "SET d 1", BindingLisp.LONG);
        checks.globalIs(x, "a SET in an F without its E", 3, BindingLisp.NOTHING);
    }

    private void longInsideProtection() {
        checks.about("without any F of a PROTECT");
        BindingLisp x = burner();
        checks.ends(x, "PROTECT PROTECT 1 " + FOREVER + " SET d 1", BindingLisp.LONG);
        checks.ends(x, "TRY PROTECT ERROR " + FOREVER + " SET d 1", BindingLisp.LONG);
        checks.ends(x, "CATCH 0 PROTECT PROTECT THROW 0 1 " + FOREVER + " SET d 1", BindingLisp.LONG);
        checks.ends(x, "PROTECT 1 PROTECT " + FOREVER + " SET d 1", BindingLisp.LONG);
        checks.globalIs(x, "a PROTECT in a long run", 3, BindingLisp.NOTHING);
    }

    private void longGivesBack() {
        checks.about("what was bound is given back all the same");
        String[] bindings = {
            "LET b 5 ", "LET b 5 LET b 6 LET b 7 ", "LET b 5 SEQ SET b 6 ", "BUFFER 2 LET b 5 BUFFER 0 LET b 6 "
        };
        for (String words : bindings) {
            BindingLisp x = burner();
            checks.ends(x, words + FOREVER, BindingLisp.LONG);
            checks.globalIs(x, words, 1, BindingLisp.NOTHING);
            x.set(1, 4);
            checks.gives(x, "BUFFER 2 LOCAL b 3", 3);
            checks.ends(x, words + FOREVER, BindingLisp.LONG);
            checks.globalIs(x, words, 1, 4);
            checks.localIs(x, words, 2, 1, 3);
        }
        BindingLisp x = burner();
        x.set(1, 4);
        checks.define(x, 1, 1, "LET b ADD b 1 NAMED 1 ADD b 1");
        checks.ends(x, "NAMED 1 50", BindingLisp.LONG);
        checks.globalIs(x, "a long chain of bindings", 1, 4);
        checks.ends(x, "CALL FUN b " + FOREVER + " 5", BindingLisp.LONG);
        checks.globalIs(x, "a long body", 1, 4);
        checks.ends(x, "SEQ " + burn(296) + "CALL FUN b b 5", BindingLisp.LONG);
        checks.same("steps()", x.steps(), 300);
        checks.globalIs(x, "a body that came too late", 1, 4);
        checks.ends(x, "PROTECT LET b 5 1 LET b 6 " + FOREVER, BindingLisp.LONG);
        checks.globalIs(x, "a long F", 1, 4);
    }

    private void longKeepsWhatWasSet() {
        checks.about("the run ends at once");
        BindingLisp x = burner();
        checks.ends(x, "SEQ SET c 5 SEQ BUFFER 1 LOCAL c 6 SEQ SET d FUN a a " + FOREVER, BindingLisp.LONG);
        checks.globalIs(x, "SET in a long run", 2, 5);
        checks.localIs(x, "LOCAL in a long run", 1, 2, 6);
        checks.globalIs(x, "SET of a closure in a long run", 3, BindingLisp.NOTHING);
        checks.ends(x, "d", BindingLisp.VOID);
    }

    private void longLeavesNothingBehind() {
        checks.about("the run ends at once");
        BindingLisp x = burner();
        for (int again = 0; again < 3; again++) {
            checks.ends(x, "BUFFER 2 CATCH 0 TRY LET c 8 LET b 9 " + FOREVER + " 1", BindingLisp.LONG);
            checks.gives(x, "ADD 1 2", 3);
            checks.same("steps()", x.steps(), 3);
            checks.ends(x, "c", BindingLisp.VOID);
            checks.ends(x, "THROW 0 1", BindingLisp.MISSING);
            checks.ends(x, "ERROR", BindingLisp.ERROR);
            checks.gives(x, "LOCAL f 5", 5);
            checks.localIs(x, "a run after a long one", 0, 5, 5);
            checks.noLocal(x, "a run after a long one", 2, 5);
            checks.gives(x, burn(300), 0);
        }
    }
}
