import java.util.ArrayList;
import java.util.LinkedHashMap;
import java.util.List;
import java.util.Map;
import java.util.function.Consumer;
import java.util.function.ToLongFunction;

/**
 * Shows that a call is refused and changes nothing: of two objects that were made ready in the same
 * way, one gets the call, and then both must answer everything that can be asked of them alike.
 */
final class Refusals {
    /** The ways to make an object ready, by name. */
    private static final Map<String, Consumer<BindingLisp>> STATES = new LinkedHashMap<>();

    static {
        STATES.put("new", x -> { });
        STATES.put("used, a draft that is one expression", Refusals::use);
        STATES.put("used, an empty draft", x -> {
            use(x);
            x.wipe();
        });
        STATES.put("used, a draft that is too short", x -> {
            use(x);
            Checks.write(x, "ADD SET g 5");
        });
        STATES.put("used, a draft that is too long", x -> {
            use(x);
            Checks.write(x, "SET g 5 6");
        });
        STATES.put("used, a draft that is too long, its tokens as many as one expression could have", x -> {
            use(x);
            Checks.write(x, "5 SET g");
        });
        STATES.put("used, a full draft that is one expression", x -> {
            use(x);
            Checks.write(x, "SET g " + "CATCH 3 ".repeat(46) + "5");
        });
        STATES.put("used, a full draft that is not", x -> {
            use(x);
            Checks.write(x, "SET g 5 ".repeat(24));
        });
        STATES.put("the latest run gave a closure", x -> {
            use(x);
            Checks.write(x, "FUN a a");
            x.run();
        });
        STATES.put("the latest run ended with an error", x -> {
            use(x);
            Checks.write(x, "SEQ 1 ERROR");
            x.run();
        });
        STATES.put("the latest run was LONG", x -> {
            use(x);
            Checks.write(x, "CALL FUN a CALL a a FUN a CALL a a");
            x.run();
        });
    }

    private final Checks checks;

    Refusals(Checks checks) {
        this.checks = checks;
    }

    /** Specials, functions, int and void places of both sorts, and a run that gave an int. */
    private static void use(BindingLisp x) {
        x.special(1, true);
        x.special(7, true);
        for (int s = 0; s < 8; s += 2) {
            x.set(s, 100 + s);
        }
        x.set(7, 107);
        Checks.write(x, "ADD b 1");
        x.define(0, 1);
        Checks.write(x, "SUB a 1");
        x.define(3, 0);
        Checks.write(x, "SEQ LOCAL a 11 SEQ BUFFER 1 LOCAL h FUN b b BUFFER 2 LOCAL d 13");
        x.run();
        Checks.write(x, "ADD 40 2");
        x.run();
    }

    /** The call is refused in every state. */
    void everywhere(String call, ToLongFunction<BindingLisp> make, long refusal) {
        for (String state : STATES.keySet()) {
            one(state, call, make, refusal);
        }
    }

    /** The call is refused in the states whose names have these words. */
    void where(String words, String call, ToLongFunction<BindingLisp> make, long refusal) {
        int seen = 0;
        for (String state : STATES.keySet()) {
            if (state.contains(words)) {
                one(state, call, make, refusal);
                seen++;
            }
        }
        checks.yes("a state with the words " + words, seen > 0);
    }

    private void one(String state, String call, ToLongFunction<BindingLisp> make, long refusal) {
        BindingLisp asked = new BindingLisp();
        BindingLisp left = new BindingLisp();
        STATES.get(state).accept(asked);
        STATES.get(state).accept(left);
        checks.same(call + " (" + state + ")", make.applyAsLong(asked), refusal);
        same(state + ", after " + call, asked, left);
    }

    private void same(String when, BindingLisp asked, BindingLisp left) {
        List<String> names = new ArrayList<>();
        List<Long> got = everything(asked, names);
        List<Long> want = everything(left, new ArrayList<>());
        for (int i = 0; i < got.size(); i++) {
            checks.same(names.get(i) + " (" + when + ")", got.get(i), want.get(i));
        }
    }

    /** The answers to all questions; the last of them use the object up. */
    private static List<Long> everything(BindingLisp x, List<String> names) {
        List<Long> answers = new ArrayList<>();
        latest(x, names, answers);
        for (int s = 0; s < 8; s++) {
            tell("global(" + s + ")", x.global(s), names, answers);
            for (int b = 0; b < 3; b++) {
                tell("local(" + b + ", " + s + ")", x.local(b, s), names, answers);
                tell("isLocal(" + b + ", " + s + ")", x.isLocal(b, s) ? 1 : 0, names, answers);
            }
        }
        draft(x, names, answers);
        for (int k = 0; k < 4; k++) {
            runOf("NAMED " + k + " 50", x, names, answers);
        }
        // a closure that is called outside the LET sees the LET's value only if s is not special
        for (int s = 0; s < 8; s++) {
            runOf("CALL LET " + s + " 70 FUN " + (s + 1) % 8 + " VAR " + s + " 1", x, names, answers);
        }
        return answers;
    }

    private static void tell(String name, long answer, List<String> names, List<Long> answers) {
        names.add(name);
        answers.add(answer);
    }

    private static void latest(BindingLisp x, List<String> names, List<Long> answers) {
        tell("result()", x.result(), names, answers);
        tell("closure()", x.closure() ? 1 : 0, names, answers);
        tell("steps()", x.steps(), names, answers);
    }

    /** A draft that is too short is one expression when a NUM more is there. */
    private static void draft(BindingLisp x, List<String> names, List<Long> answers) {
        for (int more = 0; more < 2; more++) {
            tell("run() of the draft", x.run(), names, answers);
            latest(x, names, answers);
            tell("global(6) after it", x.global(6), names, answers);
            tell("token(0, 3)", x.token(0, 3), names, answers);
        }
        tell("wipe()", x.wipe(), names, answers);
    }

    private static void runOf(String words, BindingLisp x, List<String> names, List<Long> answers) {
        Checks.write(x, words);
        tell("run() of " + words, x.run(), names, answers);
        latest(x, names, answers);
    }
}
