/** Promise 6: BINDING. */
public final class BindingTest {
    public static void main(String[] args) {
        Checks checks = new Checks();
        lexical(checks);
        closuresShareAPlace(checks);
        functions(checks);
        unbound(checks);
        dynamic(checks);
        dynamicVoid(checks);
        thatVeryPlace(checks);
        dynamicCalls(checks);
        buffers(checks);
        localAndLexical(checks);
        givenBack(checks);
        checks.end();
    }

    private static void lexical(Checks checks) {
        BindingLisp x = new BindingLisp();
        x.set(0, 1);
        checks.gives(x, "LET a 5 a", 5);
        checks.gives(x, "LET a 5 SEQ SET a 6 a", 6);
        checks.globalIs(x, "SET of a lexical place", 0, 1);
        checks.gives(x, "LET a ADD a 1 LET a ADD a 1 a", 3);
        checks.gives(x, "ADD LET a 5 a a", 6);
        checks.gives(x, "LET a 5 LET b 6 SUB a b", -1);
        checks.gives(x, "LET a 5 ADD LET a 6 SET a 7 a", 12);
        checks.gives(x, "CALL LET a 10 FUN b ADD a b 3", 13);
        checks.gives(x, "LET a 10 LET c FUN b ADD a b LET a 99 CALL c 3", 13);
        checks.gives(x, "CALL CALL FUN a FUN b SUB a b 10 3", 7);
        checks.gives(x, "CALL FUN a CALL FUN a ADD a 1 ADD a 1 1", 3);
        checks.gives(x, "LET a 3 CALL FUN a SET a 4 9", 4);
        checks.globalIs(x, "calls", 0, 1);
    }

    private static void closuresShareAPlace(Checks checks) {
        BindingLisp x = new BindingLisp();
        checks.gives(x, "LET c LET a 7 FUN b SET a ADD a b SEQ CALL c 1 SEQ CALL c 10 CALL c 100", 118);
        checks.gives(x, "LET a 1 LET c FUN b SET a b SEQ CALL c 5 a", 5);
        checks.gives(x, "LET c FUN a FUN b SET a ADD a b LET d CALL c 1 LET e CALL c 100 "
            + "SEQ CALL d 1 SEQ CALL e 1 ADD CALL d 1 CALL e 1", 105);
        checks.globalIs(x, "closures", 0, BindingLisp.NOTHING);
    }

    private static void functions(Checks checks) {
        BindingLisp x = new BindingLisp();
        checks.define(x, 0, 0, "IF a ADD a NAMED 0 SUB a 1 0");
        checks.gives(x, "NAMED 0 10", 55);
        checks.define(x, 1, 0, "ADD a b");
        x.set(1, 2);
        checks.gives(x, "LET b 50 NAMED 1 1", 3);
        checks.define(x, 2, 0, "FUN b ADD a b");
        checks.gives(x, "CALL NAMED 2 4 5", 9);
        checks.gives(x, "LET a 7 ADD NAMED 1 1 a", 10);
        checks.define(x, 3, 0, "SET a ADD a 1");
        checks.gives(x, "LET a 7 ADD NAMED 3 1 a", 9);
        checks.globalIs(x, "SET of a parameter", 0, BindingLisp.NOTHING);
    }

    private static void unbound(Checks checks) {
        BindingLisp x = new BindingLisp();
        x.set(0, 1);
        checks.gives(x, "BUFFER 1 LOCAL a 5", 5);
        checks.gives(x, "ADD a BUFFER 1 a", 6);
        checks.gives(x, "BUFFER 1 SET a 6", 6);
        checks.localIs(x, "SET in buffer 1", 1, 0, 6);
        checks.globalIs(x, "SET in buffer 1", 0, 1);
        checks.gives(x, "BUFFER 2 SET a 7", 7);
        checks.noLocal(x, "SET in buffer 2", 2, 0);
        checks.globalIs(x, "SET in buffer 2", 0, 7);
    }

    private static void dynamic(Checks checks) {
        BindingLisp x = new BindingLisp();
        x.special(0, true);
        x.set(0, 1);
        checks.define(x, 0, 1, "a");
        checks.gives(x, "LET a 5 NAMED 0 0", 5);
        checks.globalIs(x, "LET", 0, 1);
        checks.gives(x, "LET a 5 LET a 6 NAMED 0 0", 6);
        checks.gives(x, "LET a 5 SEQ LET a 6 1 NAMED 0 0", 5);
        checks.gives(x, "LET a 5 SEQ SET a 6 NAMED 0 0", 6);
        checks.globalIs(x, "SET inside", 0, 1);
        checks.gives(x, "CALL LET a 5 FUN b a 0", 1);
        checks.gives(x, "LET c FUN b a LET a 9 CALL c 0", 9);
        checks.gives(x, "LET a ADD a 1 LET a ADD a 1 a", 3);
    }

    private static void dynamicVoid(Checks checks) {
        BindingLisp x = new BindingLisp();
        x.special(0, true);
        checks.gives(x, "LET a 5 a", 5);
        checks.globalIs(x, "LET of a void place", 0, BindingLisp.NOTHING);
        checks.ends(x, "SEQ LET a 5 a a", BindingLisp.VOID);
        checks.gives(x, "LET a 5 TRY LET a 6 ERROR a", 5);
        checks.gives(x, "SEQ LOCAL a 3 LET a FUN b b CALL a 8", 8);
        checks.localIs(x, "LET of a closure", 0, 0, 3);
    }

    /** What is given back goes where it was kept from, wherever the present place is by then. */
    private static void thatVeryPlace(Checks checks) {
        BindingLisp x = new BindingLisp();
        x.special(0, true);
        x.set(0, 1);
        checks.gives(x, "LET a 5 SEQ LOCAL a 9 a", 9);
        checks.globalIs(x, "LOCAL inside LET", 0, 1);
        checks.localIs(x, "LOCAL inside LET", 0, 0, 9);
        checks.gives(x, "LET a 5 BUFFER 1 SEQ SET a 7 a", 7);
        checks.localIs(x, "LET of a local place", 0, 0, 9);
        checks.globalIs(x, "SET in another buffer", 0, 7);
        checks.gives(x, "BUFFER 1 LET a 5 BUFFER 0 a", 9);
        checks.globalIs(x, "LET in buffer 1", 0, 7);
        checks.gives(x, "BUFFER 1 LET a 5 BUFFER 0 LET a 6 BUFFER 2 SUB BUFFER 0 a a", 1);
        checks.localIs(x, "nested LETs", 0, 0, 9);
        checks.globalIs(x, "nested LETs", 0, 7);
    }

    private static void dynamicCalls(Checks checks) {
        BindingLisp x = new BindingLisp();
        x.special(0, true);
        x.set(0, 1);
        checks.define(x, 1, 1, "a");
        checks.define(x, 0, 0, "ADD NAMED 1 0 1");
        checks.gives(x, "NAMED 0 5", 6);
        checks.globalIs(x, "NAMED", 0, 1);
        checks.gives(x, "CALL FUN a NAMED 1 0 8", 8);
        checks.globalIs(x, "CALL", 0, 1);
        checks.gives(x, "CALL CALL FUN a FUN b ADD a b 50 3", 4);
        checks.ends(x, "CALL FUN a ERROR 8", BindingLisp.ERROR);
        checks.globalIs(x, "CALL that ended", 0, 1);
        checks.gives(x, "CATCH 0 NAMED 0 THROW 0 4", 4);
        checks.globalIs(x, "NAMED that was not called", 0, 1);
    }

    private static void buffers(Checks checks) {
        BindingLisp x = new BindingLisp();
        checks.gives(x, "SEQ LOCAL a 10 SEQ BUFFER 1 LOCAL a 11 BUFFER 2 LOCAL a 12", 12);
        checks.gives(x, "a", 10);
        checks.gives(x, "BUFFER 0 a", 10);
        checks.gives(x, "BUFFER 1 a", 11);
        checks.gives(x, "BUFFER 2 a", 12);
        checks.gives(x, "BUFFER 2 SUB BUFFER 1 a a", -1);
        checks.gives(x, "SUB BUFFER 2 1 a", -9);
        checks.gives(x, "SUB CATCH 0 BUFFER 2 THROW 0 1 a", -9);
        checks.gives(x, "TRY BUFFER 1 BUFFER 2 ERROR a", 10);
        checks.gives(x, "BUFFER 1 TRY BUFFER 2 ERROR a", 11);
        checks.gives(x, "BUFFER 1 PROTECT a BUFFER 2 1", 11);
        checks.ends(x, "BUFFER 1 ERROR", BindingLisp.ERROR);
        checks.gives(x, "a", 10);
        checks.define(x, 0, 1, "a");
        checks.gives(x, "BUFFER 1 NAMED 0 1", 11);
        checks.gives(x, "NAMED 0 BUFFER 1 1", 10);
        checks.gives(x, "LET c BUFFER 1 FUN b a BUFFER 2 CALL c 1", 12);
        checks.gives(x, "CALL BUFFER 1 FUN b a 1", 10);
    }

    /** A lexical place hides the local one that LOCAL is about. */
    private static void localAndLexical(Checks checks) {
        BindingLisp x = new BindingLisp();
        checks.gives(x, "LET a 5 SEQ LOCAL a 9 a", 5);
        checks.localIs(x, "LOCAL", 0, 0, 9);
        checks.gives(x, "LET a 5 SEQ SET a 6 a", 6);
        checks.localIs(x, "SET of the lexical place", 0, 0, 9);
        checks.gives(x, "LOCAL a 4", 4);
        checks.localIs(x, "LOCAL again", 0, 0, 4);
        checks.ends(x, "BUFFER 1 LOCAL a ERROR", BindingLisp.ERROR);
        checks.noLocal(x, "LOCAL whose E ended", 1, 0);
        checks.gives(x, "LOCAL b BUFFER 1 3", 3);
        checks.localIs(x, "LOCAL with BUFFER inside", 0, 1, 3);
        checks.noLocal(x, "LOCAL with BUFFER inside", 1, 1);
    }

    private static void givenBack(Checks checks) {
        BindingLisp x = new BindingLisp();
        x.special(0, true);
        x.special(1, true);
        x.set(0, 1);
        x.set(1, 2);
        checks.gives(x, "CATCH 0 LET a 5 LET a 6 LET b 7 THROW 0 ADD a b", 13);
        checks.globalIs(x, "THROW", 0, 1);
        checks.globalIs(x, "THROW", 1, 2);
        checks.gives(x, "TRY LET a 5 LET b 6 ERROR ADD a b", 3);
        checks.gives(x, "LET a 5 TRY LET a 6 LET b 6 ERROR ADD a b", 7);
        checks.ends(x, "LET a 5 LET a 6 LET b 7 c", BindingLisp.VOID);
        checks.globalIs(x, "an error", 0, 1);
        checks.globalIs(x, "an error", 1, 2);
    }
}
