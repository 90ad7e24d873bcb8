/** Promise 6: ENDING and LONG. */
public final class EndingTest {
    private static final String FOREVER = "CALL FUN a CALL a a FUN a CALL a a";

    public static void main(String[] args) {
        Checks checks = new Checks();
        throwing(checks);
        trying(checks);
        protecting(checks);
        protectionThatEnds(checks);
        nestedProtection(checks);
        order(checks);
        longRuns(checks);
        exactlyThreeHundred(checks);
        longGivesBack(checks);
        checks.end();
    }

    private static void throwing(Checks checks) {
        BindingLisp x = new BindingLisp();
        for (int t = 0; t < 4; t++) {
            checks.gives(x, "CATCH " + t + " ADD 1 THROW " + t + " 5", 5);
            checks.gives(x, "ADD 1 CATCH " + t + " TRY THROW " + t + " 5 9", 6);
            checks.ends(x, "CATCH " + t + " THROW " + (t + 1) % 4 + " 5", BindingLisp.MISSING);
        }
        checks.gives(x, "CATCH 0 7", 7);
        checks.gives(x, "CATCH 1 ADD 1 CATCH 1 THROW 1 5", 6);
        checks.gives(x, "CATCH 1 ADD 1 CATCH 2 THROW 1 5", 5);
        checks.gives(x, "CATCH 2 ADD 1 CATCH 1 THROW 1 THROW 2 5", 5);
        checks.gives(x, "CATCH 1 TRY THROW 1 5 6", 5);
        checks.gives(x, "CALL CATCH 1 ADD 1 THROW 1 FUN a a 4", 4);
        checks.gives(x, "LET c FUN b THROW 1 b ADD CATCH 1 CALL c 5 1", 6);
        checks.define(x, 0, 0, "THROW 3 a");
        checks.gives(x, "CATCH 3 ADD 1 NAMED 0 8", 8);
        checks.ends(x, "NAMED 0 8", BindingLisp.MISSING);
    }

    private static void trying(Checks checks) {
        BindingLisp x = new BindingLisp();
        checks.gives(x, "TRY 1 2", 1);
        checks.gives(x, "TRY ERROR 2", 2);
        checks.gives(x, "TRY a 2", 2);
        checks.gives(x, "TRY CALL 1 1 2", 2);
        checks.gives(x, "TRY NAMED 0 1 2", 2);
        checks.gives(x, "TRY THROW 0 1 2", 2);
        checks.gives(x, "ADD 1 TRY ADD 1 ERROR 2", 3);
        checks.gives(x, "TRY TRY ERROR ERROR 3", 3);
        checks.gives(x, "TRY 1 ERROR", 1);
        checks.ends(x, "TRY ERROR a", BindingLisp.VOID);
        checks.ends(x, "TRY a ERROR", BindingLisp.ERROR);
        checks.gives(x, "TRY ADD TRY ERROR 1 ERROR 9", 9);
        checks.ends(x, "CATCH 0 ERROR", BindingLisp.ERROR);
        checks.gives(x, "CATCH 0 TRY ERROR THROW 0 4", 4);
        checks.ends(x, "SEQ TRY 1 2 ERROR", BindingLisp.ERROR);
    }

    private static void protecting(Checks checks) {
        BindingLisp x = new BindingLisp();
        checks.gives(x, "PROTECT 1 SET a 5", 1);
        checks.globalIs(x, "PROTECT", 0, 5);
        checks.ends(x, "PROTECT ERROR SET a 6", BindingLisp.ERROR);
        checks.globalIs(x, "PROTECT of an error", 0, 6);
        checks.gives(x, "CATCH 2 PROTECT THROW 2 8 SET a 7", 8);
        checks.globalIs(x, "PROTECT of a throw", 0, 7);
        checks.gives(x, "TRY PROTECT ERROR SET a 8 ADD a 1", 9);
        checks.ends(x, "PROTECT b FUN a a", BindingLisp.VOID);
        checks.gives(x, "PROTECT SET a 1 SET a ADD a 1", 1);
        checks.globalIs(x, "PROTECT", 0, 2);
        checks.gives(x, "CALL CATCH 1 PROTECT THROW 1 FUN b ADD b 1 FUN b ADD b 2 5", 6);
        checks.ends(x, "PROTECT THROW 1 5 SET a 9", BindingLisp.MISSING);
        checks.globalIs(x, "PROTECT of a throw to nowhere", 0, 9);
    }

    private static void protectionThatEnds(Checks checks) {
        BindingLisp x = new BindingLisp();
        checks.ends(x, "PROTECT 1 ERROR", BindingLisp.ERROR);
        checks.gives(x, "CATCH 0 PROTECT 1 THROW 0 2", 2);
        checks.gives(x, "CATCH 1 PROTECT THROW 1 5 THROW 1 6", 6);
        checks.gives(x, "CATCH 2 ADD 1 CATCH 1 PROTECT THROW 1 5 THROW 2 6", 6);
        checks.gives(x, "CATCH 1 ADD 1 CATCH 2 PROTECT THROW 1 5 THROW 2 6", 7);
        checks.gives(x, "CATCH 0 PROTECT ERROR THROW 0 6", 6);
        checks.ends(x, "CATCH 0 PROTECT THROW 0 6 ERROR", BindingLisp.ERROR);
        checks.ends(x, "PROTECT a ERROR", BindingLisp.ERROR);
        checks.ends(x, "PROTECT ERROR a", BindingLisp.VOID);
        checks.ends(x, "PROTECT ERROR THROW 0 1", BindingLisp.MISSING);
        checks.gives(x, "CATCH 0 ADD 1 TRY PROTECT THROW 0 6 ERROR 3", 4);
        checks.gives(x, "CATCH 1 PROTECT THROW 1 5 CATCH 1 THROW 1 6", 5);
        checks.gives(x, "CATCH 1 PROTECT THROW 1 5 TRY ERROR 6", 5);
        checks.ends(x, "PROTECT ERROR CATCH 1 THROW 1 6", BindingLisp.ERROR);
        checks.ends(x, "PROTECT ERROR TRY a 6", BindingLisp.ERROR);
        checks.ends(x, "PROTECT CATCH 1 ERROR THROW 1 6", BindingLisp.MISSING);
        checks.gives(x, "TRY PROTECT ERROR ERROR 6", 6);
    }

    private static void nestedProtection(Checks checks) {
        BindingLisp x = new BindingLisp();
        x.set(0, 0);
        String twice = "PROTECT PROTECT ERROR SET a ADD ADD a a 1 SET a ADD ADD a a 2";
        checks.ends(x, twice, BindingLisp.ERROR);
        checks.globalIs(x, twice, 0, 4);
        checks.gives(x, "CATCH 0 PROTECT THROW 0 1 PROTECT SET a 7 SET b ADD a 1", 1);
        checks.globalIs(x, "PROTECT in a protection", 0, 7);
        checks.globalIs(x, "PROTECT in a protection", 1, 8);
        checks.gives(x, "CATCH 0 PROTECT PROTECT THROW 0 1 THROW 0 2 SET a 3", 2);
        checks.globalIs(x, "the outer PROTECT", 0, 3);
        checks.gives(x, "CATCH 0 PROTECT THROW 0 1 TRY PROTECT ERROR SET a 4 SET b 5", 1);
        checks.globalIs(x, "an error inside a protection", 0, 4);
        checks.globalIs(x, "an error inside a protection", 1, 5);
    }

    /** What is inside has been given back when F is done, what is around it has not. */
    private static void order(Checks checks) {
        BindingLisp x = new BindingLisp();
        x.special(0, true);
        x.set(0, 1);
        String[] ends = {"ERROR", "THROW 0 3", "3"};
        for (String end : ends) {
            String words = "TRY CATCH 0 LET a 5 PROTECT LET a 6 " + end + " SET b a 9";
            Checks.write(x, words);
            checks.same("run() of " + words, x.run(), BindingLisp.OK);
            checks.globalIs(x, words, 0, 1);
            checks.globalIs(x, words, 1, 5);
            words = "TRY CATCH 0 BUFFER 1 PROTECT BUFFER 2 " + end + " LOCAL c 4 9";
            Checks.write(x, words);
            checks.same("run() of " + words, x.run(), BindingLisp.OK);
            checks.localIs(x, words, 1, 2, 4);
            checks.noLocal(x, words, 2, 2);
            checks.noLocal(x, words, 0, 2);
            x.kill(1, 2);
        }
        checks.gives(x, "LET d 5 CATCH 0 LET d 6 PROTECT LET d 7 THROW 0 d SET e d", 7);
        checks.globalIs(x, "a protection inside a LET", 4, 6);
        checks.gives(x, "LET d 5 TRY LET d 6 ERROR d", 5);
    }

    private static void longRuns(Checks checks) {
        BindingLisp x = new BindingLisp();
        checks.ends(x, FOREVER, BindingLisp.LONG);
        checks.same("steps() of a long run", x.steps(), 300);
        checks.ends(x, "TRY " + FOREVER + " 1", BindingLisp.LONG);
        checks.ends(x, "PROTECT " + FOREVER + " SET b 1", BindingLisp.LONG);
        checks.globalIs(x, "a long run", 1, BindingLisp.NOTHING);
        checks.ends(x, "PROTECT SET c 1 SEQ " + FOREVER + " SET b 1", BindingLisp.LONG);
        checks.globalIs(x, "a long protection", 1, BindingLisp.NOTHING);
        checks.globalIs(x, "a long protection", 2, 1);
        checks.ends(x, "PROTECT PROTECT ERROR " + FOREVER + " SET b 1", BindingLisp.LONG);
        checks.globalIs(x, "a long protection", 1, BindingLisp.NOTHING);
        checks.ends(x, "CATCH 0 CATCH 1 CATCH 2 CATCH 3 " + FOREVER, BindingLisp.LONG);
        checks.gives(x, "ADD 1 2", 3);
    }

    /** Calling the function takes 6 steps for each count down to 0, and 7 there. */
    private static void exactlyThreeHundred(Checks checks) {
        BindingLisp x = new BindingLisp();
        checks.define(x, 0, 0, "IF a NAMED 0 SUB a 1 SEQ 0 0");
        checks.takes(x, "NAMED 0 0", 7);
        checks.takes(x, "NAMED 0 1", 13);
        String first299 = "CATCH 0 SEQ SEQ 1 NAMED 0 48 ";
        checks.gives(x, first299 + "1", 1);
        checks.same("steps()", x.steps(), 300);
        checks.ends(x, first299 + "ERROR", BindingLisp.ERROR);
        checks.same("steps()", x.steps(), 300);
        checks.ends(x, first299 + "SET b 1", BindingLisp.LONG);
        checks.same("steps()", x.steps(), 300);
        checks.globalIs(x, "a SET whose E was not worked out", 1, BindingLisp.NOTHING);
        checks.ends(x, first299 + "TRY ERROR 1", BindingLisp.LONG);
        checks.same("steps()", x.steps(), 300);
        checks.ends(x, "TRY PROTECT " + first299 + "1 SET b 1 2", BindingLisp.LONG);
        checks.globalIs(x, "a protection without steps", 1, BindingLisp.NOTHING);
    }

    private static void longGivesBack(Checks checks) {
        BindingLisp x = new BindingLisp();
        x.special(0, true);
        x.special(1, true);
        x.set(0, 1);
        checks.gives(x, "BUFFER 1 LOCAL a 2", 2);
        checks.define(x, 0, 0, "LET b a NAMED 0 ADD a 1");
        checks.ends(x, "LET a 50 BUFFER 1 LET a 60 BUFFER 2 NAMED 0 7", BindingLisp.LONG);
        checks.globalIs(x, "a long run", 0, 1);
        checks.globalIs(x, "a long run", 1, BindingLisp.NOTHING);
        checks.localIs(x, "a long run", 1, 0, 2);
        checks.ends(x, "SEQ LOCAL c 8 SEQ SET d 9 NAMED 0 7", BindingLisp.LONG);
        checks.localIs(x, "a long run", 0, 2, 8);
        checks.globalIs(x, "a long run", 3, 9);
        checks.gives(x, "a", 1);
    }
}
