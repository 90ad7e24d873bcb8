/** The boundary cases of promises 1 to 5 and 10 to 14, one method for each sentence that names some. */
public final class CallEdgesTest {
    private static final int LOW = Integer.MIN_VALUE;
    private static final int HIGH = Integer.MAX_VALUE;
    private static final int[] NO_SYMBOL = {-1, 8, -8, 16, LOW, HIGH};
    private static final int[] NO_BUFFER = {-1, 3, -3, 4, LOW, HIGH};
    private static final int[] NO_FUNCTION = {-1, 4, -4, 8, LOW, HIGH};

    private final Checks checks = new Checks();
    private final Refusals refusals = new Refusals(checks);

    public static void main(String[] args) {
        CallEdgesTest test = new CallEdgesTest();
        test.newObject();
        test.tokens();
        test.wiping();
        test.specials();
        test.defining();
        test.looking();
        test.setting();
        test.killing();
        test.checks.end();
    }

    private void newObject() {
        newHasNothing();
        newIsFree();
    }

    private void tokens() {
        tokenCounts();
        tokenOfNoKind();
        tokenOutOfRange();
        tokenOfAnyValue();
        tokenWhenFull();
    }

    private void wiping() {
        wipeCounts();
        wipeForgets();
    }

    private void specials() {
        specialOfEach();
        specialClears();
        specialClearsNoMore();
        specialOfNone();
    }

    private void defining() {
        defineOfEach();
        defineOutOfRange();
        defineOfNoExpression();
        defineOfShortestAndLongest();
    }

    private void looking() {
        globalOfNone();
        localOfNone();
        isLocalOfNone();
        questionsChangeNothing();
    }

    private void setting() {
        setOfEach();
        setOfNone();
    }

    private void killing() {
        killOfEach();
        killOfNone();
        killOfVoid();
    }

    // Promise 1

    private void newHasNothing() {
        checks.about("No symbol is special, all places are void, no functions, an empty draft.");
        BindingLisp x = new BindingLisp();
        checks.same("wipe()", x.wipe(), 0);
        for (int s = 0; s < 8; s++) {
            checks.globalIs(x, "new", s, BindingLisp.NOTHING);
            checks.ends(x, "VAR " + s, BindingLisp.VOID);
            checks.gives(x, "CALL LET " + s + " 7 FUN " + (s + 1) % 8 + " VAR " + s + " 0", 7);
            for (int b = 0; b < 3; b++) {
                checks.noLocal(x, "new", b, s);
                checks.no("kill(" + b + ", " + s + ")", x.kill(b, s));
            }
        }
        for (int k = 0; k < 4; k++) {
            checks.ends(x, "NAMED " + k + " 1", BindingLisp.MISSING);
        }
    }

    private void newIsFree() {
        checks.about("an empty draft");
        BindingLisp x = new BindingLisp();
        checks.same("run()", x.run(), BindingLisp.SYNTAX);
        checks.no("define(0, 0)", x.define(0, 0));
        checks.same("token(18, 0)", x.token(18, 0), 1);
    }

    // Promise 2

    private void tokenCounts() {
        checks.about("Appends a token to the draft: how many it has");
        BindingLisp x = new BindingLisp();
        for (int i = 1; i <= 48; i++) {
            checks.same("token number " + i, x.token(i % 19, i % 3), i);
        }
        checks.same("wipe()", x.wipe(), 48);
        checks.same("token(0, 0) of the emptied draft", x.token(0, 0), 1);
    }

    private void tokenOfNoKind() {
        checks.about("NONE, and nothing changes, if kind is none");
        BindingLisp x = new BindingLisp();
        checks.same("token(0, 0), the first kind", x.token(0, 0), 1);
        checks.same("token(18, 0), the last kind", x.token(18, 0), 2);
        for (int kind : new int[] {-1, 19, -19, 37, LOW, HIGH}) {
            for (int value : new int[] {0, 2, -1}) {
                String call = "token(" + kind + ", " + value + ")";
                refusals.everywhere(call, it -> it.token(kind, value), BindingLisp.NONE);
            }
        }
    }

    private void tokenOutOfRange() {
        checks.about("NONE, and nothing changes, if its value (of 1 to 4, 6, 12, 13, 16, 17) is out of range");
        for (int kind : new int[] {1, 2, 3, 4, 17}) {
            tokenBeside(kind, 7);
        }
        tokenBeside(6, 3);
        tokenBeside(12, 3);
        tokenBeside(13, 3);
        tokenBeside(16, 2);
    }

    private void tokenBeside(int kind, int last) {
        BindingLisp x = new BindingLisp();
        for (int value = 0; value <= last; value++) {
            checks.same("token(" + kind + ", " + value + ")", x.token(kind, value), value + 1);
        }
        for (int value : new int[] {-1, last + 1, LOW, HIGH, 256, 65536}) {
            String call = "token(" + kind + ", " + value + ")";
            refusals.everywhere(call, it -> it.token(kind, value), BindingLisp.NONE);
        }
    }

    private void tokenOfAnyValue() {
        checks.about("its value (of 1 to 4, 6, 12, 13, 16, 17)");
        for (int kind : new int[] {0, 5, 7, 8, 9, 10, 11, 14, 15, 18}) {
            BindingLisp x = new BindingLisp();
            int count = 0;
            for (int value : new int[] {LOW, -1, 0, 3, 4, 8, HIGH}) {
                count++;
                checks.same("token(" + kind + ", " + value + ")", x.token(kind, value), count);
            }
        }
        BindingLisp x = new BindingLisp();
        checks.same("token(9, HIGH)", x.token(9, HIGH), 1);
        checks.same("token(0, 4)", x.token(0, 4), 2);
        checks.same("token(0, 5)", x.token(0, 5), 3);
        checks.same("run()", x.run(), BindingLisp.OK);
        checks.same("result()", x.result(), 9);
    }

    private void tokenWhenFull() {
        checks.about("NONE, and nothing changes, if there are 48");
        for (int kind = 0; kind < 19; kind++) {
            int full = kind;
            refusals.where("full draft", "token(" + kind + ", 0)", it -> it.token(full, 0), BindingLisp.NONE);
        }
        BindingLisp x = new BindingLisp();
        for (int i = 1; i <= 46; i++) {
            x.token(12, 0);
        }
        checks.same("the 47th token", x.token(12, 0), 47);
        checks.same("the 48th token", x.token(0, 6), 48);
        checks.same("the 49th token", x.token(0, 7), BindingLisp.NONE);
        checks.same("the 49th token, once more", x.token(0, 8), BindingLisp.NONE);
        checks.same("run()", x.run(), BindingLisp.OK);
        checks.same("result()", x.result(), 6);
        checks.same("wipe()", x.wipe(), 48);
    }

    // Promise 3

    private void wipeCounts() {
        checks.about("Empties the draft: how many tokens it had.");
        BindingLisp x = new BindingLisp();
        for (int count : new int[] {0, 1, 47, 48, 0}) {
            for (int i = 0; i < count; i++) {
                x.token(0, 1);
            }
            checks.same("wipe() of " + count, x.wipe(), count);
            checks.same("wipe() again", x.wipe(), 0);
        }
        refusals.where("an empty draft", "wipe()", BindingLisp::wipe, 0);
        refusals.where("new", "wipe()", BindingLisp::wipe, 0);
    }

    private void wipeForgets() {
        checks.about("Empties the draft");
        BindingLisp x = new BindingLisp();
        Checks.append(x, "ADD 1");
        x.wipe();
        checks.same("run()", x.run(), BindingLisp.SYNTAX);
        checks.same("token(0, 2)", x.token(0, 2), 1);
        checks.same("run()", x.run(), BindingLisp.OK);
        checks.same("result()", x.result(), 2);
    }

    // Promise 4

    private void specialOfEach() {
        checks.about("Symbol s is special from now on, or not: true");
        for (int s = 0; s < 8; s++) {
            BindingLisp x = new BindingLisp();
            checks.yes("special(" + s + ", true)", x.special(s, true));
            onlySpecial(x, s);
            checks.yes("special(" + s + ", true) again", x.special(s, true));
            onlySpecial(x, s);
            checks.yes("special(" + s + ", false)", x.special(s, false));
            onlySpecial(x, -1);
            checks.yes("special(" + s + ", false) again", x.special(s, false));
            onlySpecial(x, -1);
        }
    }

    private void onlySpecial(BindingLisp x, int special) {
        for (int s = 0; s < 8; s++) {
            String words = "CALL LET " + s + " 7 FUN " + (s + 1) % 8 + " VAR " + s + " 0";
            if (s == special) {
                checks.ends(x, words, BindingLisp.VOID);
            } else {
                checks.gives(x, words, 7);
            }
        }
    }

    private void specialClears() {
        checks.about("all functions are no more then, all global places void, no local ones there");
        for (int s = 0; s < 8; s++) {
            BindingLisp x = filled();
            checks.yes("special(" + s + ", on)", x.special(s, s % 2 == 0));
            for (int other = 0; other < 8; other++) {
                checks.globalIs(x, "special", other, BindingLisp.NOTHING);
                for (int b = 0; b < 3; b++) {
                    checks.noLocal(x, "special", b, other);
                }
            }
            for (int k = 0; k < 4; k++) {
                checks.ends(x, "NAMED " + k + " 1", BindingLisp.MISSING);
            }
        }
    }

    private void specialClearsNoMore() {
        checks.about("all functions are no more then, all global places void, no local ones there");
        for (int s = 0; s < 8; s++) {
            for (int again = 0; again < 2; again++) {
                BindingLisp x = new BindingLisp();
                x.special(s, again == 1);
                checks.gives(x, "ADD 40 2", 42);
                checks.yes("special(" + s + ", true)", x.special(s, true));
                checks.same("result()", x.result(), 42);
                checks.same("steps()", x.steps(), 3);
                checks.same("run()", x.run(), BindingLisp.OK);
                checks.same("wipe()", x.wipe(), 3);
            }
        }
    }

    /** Every place holds an int, every function is there. */
    private BindingLisp filled() {
        BindingLisp x = new BindingLisp();
        for (int s = 0; s < 8; s++) {
            x.set(s, 10 + s);
            for (int b = 0; b < 3; b++) {
                Checks.write(x, "BUFFER " + b + " LOCAL " + s + " " + (100 * b + s));
                x.run();
            }
        }
        for (int k = 0; k < 4; k++) {
            checks.define(x, k, k, "VAR " + k);
        }
        return x;
    }

    private void specialOfNone() {
        checks.about("False, and nothing changes, if there is no such symbol.");
        for (int s : NO_SYMBOL) {
            refusals.everywhere("special(" + s + ", true)", it -> it.special(s, true) ? 1 : 0, 0);
            refusals.everywhere("special(" + s + ", false)", it -> it.special(s, false) ? 1 : 0, 0);
        }
    }

    // Promise 5

    private void defineOfEach() {
        checks.about("The draft, which is empty then, becomes function k, with the parameter s: true");
        for (int k = 0; k < 4; k++) {
            for (int s = 0; s < 8; s++) {
                BindingLisp x = new BindingLisp();
                checks.define(x, k, s, "ADD 1 VAR " + s);
                checks.same("wipe()", x.wipe(), 0);
                for (int other = 0; other < 4; other++) {
                    if (other == k) {
                        checks.gives(x, "NAMED " + other + " 4", 5);
                    } else {
                        checks.ends(x, "NAMED " + other + " 4", BindingLisp.MISSING);
                    }
                }
                checks.globalIs(x, "NAMED", s, BindingLisp.NOTHING);
            }
        }
    }

    private void defineOutOfRange() {
        checks.about("false, and the draft stays, if one is out of range");
        for (int k : NO_FUNCTION) {
            refusals.everywhere("define(" + k + ", 0)", it -> it.define(k, 0) ? 1 : 0, 0);
            refusals.everywhere("define(" + k + ", 7)", it -> it.define(k, 7) ? 1 : 0, 0);
            refusals.everywhere("define(" + k + ", 8)", it -> it.define(k, 8) ? 1 : 0, 0);
        }
        for (int s : NO_SYMBOL) {
            refusals.everywhere("define(0, " + s + ")", it -> it.define(0, s) ? 1 : 0, 0);
            refusals.everywhere("define(3, " + s + ")", it -> it.define(3, s) ? 1 : 0, 0);
        }
    }

    private void defineOfNoExpression() {
        checks.about("false, and the draft stays, if the draft is not one expression");
        for (int k = 0; k < 4; k++) {
            int here = k;
            String call = "define(" + k + ", 1)";
            refusals.where("new", call, it -> it.define(here, 1) ? 1 : 0, 0);
            refusals.where("an empty draft", call, it -> it.define(here, 1) ? 1 : 0, 0);
            refusals.where("too short", call, it -> it.define(here, 1) ? 1 : 0, 0);
            refusals.where("too long", call, it -> it.define(here, 1) ? 1 : 0, 0);
            refusals.where("full draft that is not", call, it -> it.define(here, 1) ? 1 : 0, 0);
        }
    }

    private void defineOfShortestAndLongest() {
        checks.about("EXPRESSIONS are prefix lists of 1 to 48 tokens");
        BindingLisp x = new BindingLisp();
        checks.define(x, 0, 0, "a");
        checks.define(x, 3, 1, "SUB b " + "CATCH 0 ".repeat(45) + "1");
        checks.gives(x, "NAMED 0 8", 8);
        checks.gives(x, "NAMED 3 8", 7);
        checks.gives(x, "CATCH 1 ".repeat(46) + "NAMED 3 9", 8);
    }

    // Promises 10 to 12

    private void globalOfNone() {
        checks.about("The int in the global place of s; NOTHING if it is void, or there is none.");
        BindingLisp x = filled();
        for (int s : NO_SYMBOL) {
            checks.globalIs(x, "nothing", s, BindingLisp.NOTHING);
            refusals.everywhere("global(" + s + ")", it -> it.global(s), BindingLisp.NOTHING);
        }
        for (int s = 0; s < 8; s++) {
            checks.globalIs(x, "set", s, 10 + s);
            Checks.write(x, "BUFFER 0 LOCAL " + s + " 5");
            x.run();
            checks.globalIs(x, "LOCAL", s, 10 + s);
        }
        x.kill(0, 7);
        Checks.write(x, "SET h FUN a a");
        x.run();
        checks.globalIs(x, "a SET of a closure", 7, BindingLisp.NOTHING);
        checks.globalIs(new BindingLisp(), "new", 7, BindingLisp.NOTHING);
    }

    private void localOfNone() {
        checks.about("The int in the local place of s in buffer b; NOTHING if it is void, or there is none.");
        BindingLisp x = filled();
        for (int b = 0; b < 3; b++) {
            for (int s = 0; s < 8; s++) {
                checks.localIs(x, "LOCAL", b, s, 100 * b + s);
            }
            for (int s : NO_SYMBOL) {
                int here = b;
                checks.noLocal(x, "nothing", b, s);
                String call = "local(" + b + ", " + s + ")";
                refusals.everywhere(call, it -> it.local(here, s), BindingLisp.NOTHING);
            }
        }
        for (int b : NO_BUFFER) {
            for (int s : new int[] {0, 3, 7, -1, 8}) {
                checks.noLocal(x, "nothing", b, s);
                String call = "local(" + b + ", " + s + ")";
                refusals.everywhere(call, it -> it.local(b, s), BindingLisp.NOTHING);
            }
        }
        x.kill(2, 7);
        checks.noLocal(x, "kill", 2, 7);
        Checks.write(x, "BUFFER 2 LOCAL h FUN a a");
        x.run();
        checks.localIs(x, "a LOCAL of a closure", 2, 7, BindingLisp.NOTHING);
    }

    private void isLocalOfNone() {
        checks.about("Whether s has a local place in buffer b.");
        for (int b = 0; b < 3; b++) {
            for (int s = 0; s < 8; s++) {
                BindingLisp x = new BindingLisp();
                x.set(s, 5);
                Checks.write(x, "BUFFER " + b + " LOCAL " + s + " 5");
                checks.no("isLocal(" + b + ", " + s + ") before", x.isLocal(b, s));
                x.run();
                for (int place = 0; place < 24; place++) {
                    boolean here = place == 8 * b + s;
                    String call = "isLocal(" + place / 8 + ", " + place % 8 + ")";
                    checks.same(call, x.isLocal(place / 8, place % 8) ? 1 : 0, here ? 1 : 0);
                }
            }
        }
        for (int b : NO_BUFFER) {
            refusals.everywhere("isLocal(" + b + ", 0)", it -> it.isLocal(b, 0) ? 1 : 0, 0);
        }
        for (int s : NO_SYMBOL) {
            refusals.everywhere("isLocal(0, " + s + ")", it -> it.isLocal(0, s) ? 1 : 0, 0);
        }
    }

    private void questionsChangeNothing() {
        checks.about("The int in the global place of s; Whether s has a local place in buffer b.");
        refusals.where("one expression", "global(0)", it -> it.global(0), 100);
        refusals.where("one expression", "local(0, 0)", it -> it.local(0, 0), 11);
        refusals.where("one expression", "local(1, 7)", it -> it.local(1, 7), BindingLisp.NOTHING);
        refusals.where("one expression", "local(1, 0)", it -> it.local(1, 0), BindingLisp.NOTHING);
        refusals.where("one expression", "isLocal(1, 7)", it -> it.isLocal(1, 7) ? 1 : 0, 1);
        refusals.where("one expression", "isLocal(1, 0)", it -> it.isLocal(1, 0) ? 1 : 0, 0);
        refusals.where("one expression", "result()", it -> it.result(), 42);
        refusals.where("one expression", "steps()", it -> it.steps(), 3);
        refusals.where("gave a closure", "closure()", it -> it.closure() ? 1 : 0, 1);
    }

    // Promise 13

    private void setOfEach() {
        checks.about("The global place of s gets an int: true");
        for (int s = 0; s < 8; s++) {
            for (int v : new int[] {LOW, -1, 0, 1, HIGH}) {
                BindingLisp x = new BindingLisp();
                x.special(s, v > 0);
                checks.yes("set(" + s + ", " + v + ")", x.set(s, v));
                for (int other = 0; other < 8; other++) {
                    checks.globalIs(x, "set", other, other == s ? v : BindingLisp.NOTHING);
                    checks.noLocal(x, "set", 0, other);
                }
                checks.gives(x, "VAR " + s, v);
            }
        }
    }

    private void setOfNone() {
        checks.about("false, and nothing changes, if there is none");
        for (int s : NO_SYMBOL) {
            refusals.everywhere("set(" + s + ", 9)", it -> it.set(s, 9) ? 1 : 0, 0);
        }
    }

    // Promise 14

    private void killOfEach() {
        checks.about("s has no local place in buffer b any more: true");
        for (int b = 0; b < 3; b++) {
            for (int s = 0; s < 8; s++) {
                BindingLisp x = filled();
                checks.yes("kill(" + b + ", " + s + ")", x.kill(b, s));
                for (int place = 0; place < 24; place++) {
                    if (place == 8 * b + s) {
                        checks.noLocal(x, "kill", b, s);
                    } else {
                        checks.localIs(x, "kill of another", place / 8, place % 8, 100 * (place / 8) + place % 8);
                    }
                }
                checks.globalIs(x, "kill", s, 10 + s);
                checks.gives(x, "BUFFER " + b + " VAR " + s, 10 + s);
                checks.gives(x, "BUFFER " + b + " SET " + s + " 6", 6);
                checks.globalIs(x, "SET after kill", s, 6);
                checks.noLocal(x, "SET after kill", b, s);
            }
        }
    }

    private void killOfNone() {
        checks.about("false if it had none");
        BindingLisp x = filled();
        checks.yes("kill(1, 3)", x.kill(1, 3));
        checks.no("kill(1, 3) again", x.kill(1, 3));
        refusals.where("used", "kill(1, 0)", it -> it.kill(1, 0) ? 1 : 0, 0);
        refusals.where("used", "kill(0, 7)", it -> it.kill(0, 7) ? 1 : 0, 0);
        refusals.where("new", "kill(2, 7)", it -> it.kill(2, 7) ? 1 : 0, 0);
        for (int b : NO_BUFFER) {
            for (int s : new int[] {0, 3, 7, -1, 8}) {
                refusals.everywhere("kill(" + b + ", " + s + ")", it -> it.kill(b, s) ? 1 : 0, 0);
            }
        }
        for (int s : NO_SYMBOL) {
            for (int b = 0; b < 3; b++) {
                int here = b;
                refusals.everywhere("kill(" + b + ", " + s + ")", it -> it.kill(here, s) ? 1 : 0, 0);
            }
        }
    }

    /** A void local place is one, too. */
    private void killOfVoid() {
        checks.about("s has no local place in buffer b any more: true; false if it had none");
        BindingLisp x = new BindingLisp();
        x.set(0, 3);
        Checks.write(x, "LOCAL a FUN a a");
        x.run();
        checks.localIs(x, "a LOCAL of a closure", 0, 0, BindingLisp.NOTHING);
        checks.yes("kill(0, 0) of a void place", x.kill(0, 0));
        checks.noLocal(x, "kill", 0, 0);
        checks.gives(x, "a", 3);
        checks.no("kill(0, 0) again", x.kill(0, 0));
    }
}
