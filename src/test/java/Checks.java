/** Compares answers with what is due, and writes drafts from words, for all tests of the project. */
final class Checks {
    private static final String[] KINDS = {
        "NUM", "VAR", "SET", "LET", "FUN", "CALL", "NAMED", "SEQ", "IF", "ADD", "SUB", "LESS",
        "CATCH", "THROW", "TRY", "PROTECT", "BUFFER", "LOCAL", "ERROR"
    };
    private static final String WITH_VALUE = " NUM VAR SET LET FUN NAMED CATCH THROW BUFFER LOCAL ";

    private int made = 0;
    private int wrong = 0;
    private String sentence = "";

    /** Names the sentence of the document that the checks from here on are about. */
    void about(String words) {
        sentence = "\"" + words + "\": ";
    }

    void same(String what, long got, long want) {
        made++;
        if (got != want) {
            wrong++;
            System.out.println(sentence + what + " answered " + got + ", due is " + want);
        }
    }

    void yes(String what, boolean got) {
        same(what, got ? 1 : 0, 1);
    }

    void no(String what, boolean got) {
        same(what, got ? 1 : 0, 0);
    }

    /** Must be called last: says by the exit code whether all answers were as due. */
    void end() {
        System.out.println(made + " answers, " + wrong + " not as due");
        if (wrong != 0 || made == 0) {
            System.exit(1);
        }
    }

    /**
     * Puts an expression into the draft in place of what was there. The words are the names of the
     * kinds, each with its value behind it if it has one; a number alone is a NUM, a letter alone
     * a VAR, and the letters a to h stand for the symbols 0 to 7.
     */
    static void write(BindingLisp x, String words) {
        x.wipe();
        append(x, words);
    }

    static void append(BindingLisp x, String words) {
        String[] all = words.trim().split("\\s+");
        for (int i = 0; i < all.length; i++) {
            int kind = kindOf(all[i]);
            int answer;
            if (kind >= 0 && WITH_VALUE.contains(" " + all[i] + " ")) {
                i++;
                answer = x.token(kind, number(all[i]));
            } else if (kind >= 0) {
                answer = x.token(kind, 0);
            } else {
                answer = x.token(isSymbol(all[i]) ? 1 : 0, number(all[i]));
            }
            if (answer < 0) {
                throw new IllegalArgumentException("no token: " + all[i] + " in " + words);
            }
        }
    }

    private static int kindOf(String word) {
        for (int kind = 0; kind < KINDS.length; kind++) {
            if (KINDS[kind].equals(word)) {
                return kind;
            }
        }
        return -1;
    }

    private static boolean isSymbol(String word) {
        return word.length() == 1 && word.charAt(0) >= 'a' && word.charAt(0) <= 'h';
    }

    private static int number(String word) {
        return isSymbol(word) ? word.charAt(0) - 'a' : Integer.parseInt(word);
    }

    void define(BindingLisp x, int k, int s, String words) {
        write(x, words);
        yes("define(" + k + ", " + s + ") of " + words, x.define(k, s));
    }

    /** The expression is worked out and gives the int. */
    void gives(BindingLisp x, String words, long want) {
        write(x, words);
        same("run() of " + words, x.run(), BindingLisp.OK);
        same("result() of " + words, x.result(), want);
        no("closure() of " + words, x.closure());
    }

    /** The expression ends with the code. */
    void ends(BindingLisp x, String words, int code) {
        write(x, words);
        same("run() of " + words, x.run(), code);
        same("result() of " + words, x.result(), BindingLisp.NOTHING);
        no("closure() of " + words, x.closure());
    }

    void takes(BindingLisp x, String words, int steps) {
        write(x, words);
        x.run();
        same("steps() of " + words, x.steps(), steps);
    }

    void globalIs(BindingLisp x, String when, int s, long want) {
        same("global(" + s + ") after " + when, x.global(s), want);
    }

    void localIs(BindingLisp x, String when, int b, int s, long want) {
        same("local(" + b + ", " + s + ") after " + when, x.local(b, s), want);
        yes("isLocal(" + b + ", " + s + ") after " + when, x.isLocal(b, s));
    }

    void noLocal(BindingLisp x, String when, int b, int s) {
        same("local(" + b + ", " + s + ") after " + when, x.local(b, s), BindingLisp.NOTHING);
        no("isLocal(" + b + ", " + s + ") after " + when, x.isLocal(b, s));
    }
}
