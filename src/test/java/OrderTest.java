/** Promise 15. */
public final class OrderTest {
    public static void main(String[] args) {
        Checks checks = new Checks();
        setLooksLate(checks);
        letLooksLate(checks);
        callsLookLate(checks);
        closureLooksLate(checks);
        sidesInOrder(checks);
        checks.end();
    }

    private static BindingLisp withSpecial() {
        BindingLisp x = new BindingLisp();
        x.special(0, true);
        x.set(0, 1);
        return x;
    }

    private static void setLooksLate(Checks checks) {
        for (int on = 0; on < 2; on++) {
            BindingLisp x = new BindingLisp();
            x.special(0, on == 1);
            x.set(0, 1);
            checks.gives(x, "SET a SEQ LOCAL a 5 6", 6);
            checks.localIs(x, "SET", 0, 0, 6);
            checks.globalIs(x, "SET", 0, 1);
            checks.gives(x, "BUFFER 2 SET a SEQ BUFFER 1 LOCAL a 5 7", 7);
            checks.localIs(x, "SET", 1, 0, 5);
            checks.globalIs(x, "SET", 0, 7);
        }
    }

    private static void letLooksLate(Checks checks) {
        BindingLisp x = withSpecial();
        checks.gives(x, "LET a SEQ LOCAL a 5 6 BUFFER 1 a", 1);
        checks.localIs(x, "LET", 0, 0, 5);
        checks.globalIs(x, "LET", 0, 1);
        x = withSpecial();
        checks.gives(x, "LET a SEQ LOCAL a 5 6 a", 6);
        checks.localIs(x, "LET", 0, 0, 5);
        x = withSpecial();
        checks.gives(x, "LET a SEQ SET a 5 6 a", 6);
        checks.globalIs(x, "SET inside E", 0, 5);
    }

    private static void callsLookLate(Checks checks) {
        BindingLisp x = withSpecial();
        checks.define(x, 0, 0, "BUFFER 1 a");
        checks.gives(x, "NAMED 0 SEQ LOCAL a 5 6", 1);
        checks.localIs(x, "NAMED", 0, 0, 5);
        checks.globalIs(x, "NAMED", 0, 1);
        x = withSpecial();
        checks.gives(x, "CALL FUN a BUFFER 1 a SEQ LOCAL a 5 6", 1);
        checks.localIs(x, "CALL", 0, 0, 5);
        checks.globalIs(x, "CALL", 0, 1);
        checks.gives(x, "CALL FUN a a SEQ SET a 7 8", 8);
        checks.localIs(x, "CALL", 0, 0, 7);
    }

    private static void closureLooksLate(Checks checks) {
        BindingLisp x = withSpecial();
        checks.gives(x, "CALL SEQ LOCAL a 5 FUN a BUFFER 1 a 6", 1);
        checks.localIs(x, "CALL", 0, 0, 5);
        checks.globalIs(x, "CALL", 0, 1);
    }

    private static void sidesInOrder(Checks checks) {
        BindingLisp x = new BindingLisp();
        checks.gives(x, "ADD SET a 1 SET a ADD a 1", 3);
        checks.globalIs(x, "ADD", 0, 2);
        checks.gives(x, "CALL SEQ SET a 5 FUN b ADD a b SET a 6", 12);
        checks.gives(x, "LET c SET a 3 ADD a c", 6);
        checks.gives(x, "LESS SET a 4 ADD a 1", 1);
    }
}
