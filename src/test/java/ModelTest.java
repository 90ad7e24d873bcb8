import java.util.Random;

/**
 * All promises together: many objects, each with some hundred calls, answer what the model does.
 * The seed of each object is fixed, so every run of the test makes the same calls.
 */
public final class ModelTest {
    private static final int OBJECTS = 20000;
    private static final int CALLS = 500;

    private final Checks checks;
    private final Random random;
    private final BindingLisp real = new BindingLisp();
    private final Model model = new Model();
    private final StringBuilder told = new StringBuilder();
    private int calls = 0;
    private int symbols = 0;
    private int oks = 0;
    private int errors = 0;
    private int longs = 0;

    private ModelTest(Checks checks, int seed) {
        this.checks = checks;
        this.random = new Random(seed);
        this.symbols = 1 + random.nextInt(4);
    }

    public static void main(String[] args) {
        Checks checks = new Checks();
        int oks = 0;
        int errors = 0;
        int longs = 0;
        for (int seed = 1; seed <= OBJECTS; seed++) {
            ModelTest test = new ModelTest(checks, seed);
            test.useObject();
            oks += test.oks;
            errors += test.errors;
            longs += test.longs;
        }
        System.out.println(oks + " runs OK, " + errors + " with an error, " + longs + " LONG");
        checks.yes("enough runs of each way to end", oks > 10000 && errors > 10000 && longs > 500);
        checks.end();
    }

    private void same(String call, long got, long want) {
        calls++;
        told.append(call).append(" -> ").append(want).append('\n');
        checks.same(call, got, want);
        if (got != want) {
            System.out.println("the calls before:\n" + told);
            System.exit(1);
        }
    }

    private void same(String call, boolean got, boolean want) {
        same(call, got ? 1 : 0, want ? 1 : 0);
    }

    private void useObject() {
        for (int s = 0; s < symbols; s++) {
            if (random.nextInt(2) == 0) {
                special(s);
            }
        }
        fill();
        while (calls < CALLS - 120) {
            act();
        }
    }

    /** Most places and functions are there, so that not every run ends soon with an error. */
    private void fill() {
        for (int s = 0; s < symbols; s++) {
            set(s);
        }
        for (int k = 0; k < 2; k++) {
            write();
            define(k, anySymbol());
        }
    }

    private void act() {
        int choice = random.nextInt(40);
        if (choice == 0) {
            special(anySymbol());
            fill();
        } else if (choice < 4) {
            set(anySymbol());
        } else if (choice < 6) {
            kill(random.nextInt(5) - 1, anySymbol());
        } else if (choice < 14) {
            write();
            define(random.nextInt(16) == 0 ? random.nextInt(8) - 2 : random.nextInt(2), anySymbol());
        } else if (choice == 14) {
            token(random.nextInt(23) - 2, random.nextInt(12) - 2);
            run();
        } else if (choice < 18) {
            run();
        } else {
            write();
            run();
        }
        look();
    }

    private int anySymbol() {
        return random.nextInt(20) == 0 ? random.nextInt(14) - 3 : random.nextInt(symbols);
    }

    private void special(int s) {
        boolean on = random.nextInt(3) > 0;
        same("special(" + s + ", " + on + ")", real.special(s, on), model.special(s, on));
    }

    private void set(int s) {
        int v = random.nextInt(4);
        same("set(" + s + ", " + v + ")", real.set(s, v), model.set(s, v));
    }

    private void kill(int b, int s) {
        same("kill(" + b + ", " + s + ")", real.kill(b, s), model.kill(b, s));
    }

    private void define(int k, int s) {
        same("define(" + k + ", " + s + ")", real.define(k, s), model.define(k, s));
    }

    private void token(int kind, int value) {
        same("token(" + kind + ", " + value + ")", real.token(kind, value), model.token(kind, value));
    }

    private void run() {
        int code = model.run();
        same("run()", real.run(), code);
        oks += code == BindingLisp.OK ? 1 : 0;
        errors += code >= BindingLisp.VOID && code <= BindingLisp.ERROR ? 1 : 0;
        longs += code == BindingLisp.LONG ? 1 : 0;
        same("result()", real.result(), model.result());
        same("closure()", real.closure(), model.closure());
        same("steps()", real.steps(), model.steps());
    }

    private void look() {
        for (int s = 0; s < symbols; s++) {
            same("global(" + s + ")", real.global(s), model.global(s));
            int b = random.nextInt(3);
            same("local(" + b + ", " + s + ")", real.local(b, s), model.local(b, s));
            same("isLocal(" + b + ", " + s + ")", real.isLocal(b, s), model.isLocal(b, s));
        }
    }

    private void write() {
        same("wipe()", real.wipe(), model.wipe());
        expression(4 + random.nextInt(random.nextInt(4) == 0 ? 44 : 16));
    }

    /** Writes an expression of at most as many tokens; answers how many it has. */
    private int expression(int most) {
        int kind = kindFor(most);
        token(kind, valueFor(kind));
        int parts = Model.partCount(kind);
        int used = 1;
        for (int part = parts; part > 0; part--) {
            int left = most - used - (part - 1);
            boolean calls = kind == 5 && part == 2 && left >= 2 && random.nextInt(3) > 0;
            if (calls) {
                token(4, random.nextInt(symbols));
                used += 1 + expression(part == 1 ? left - 1 : 1 + random.nextInt(left - 1));
            } else {
                used += expression(part == 1 ? left : 1 + random.nextInt(left));
            }
        }
        return used;
    }

    private int kindFor(int most) {
        if (most < 2) {
            int leaf = random.nextInt(12);
            return leaf < 5 ? 0 : leaf < 11 ? 1 : 18;
        }
        int kind = random.nextInt(19);
        if (kind == 18 && random.nextInt(2) == 0 || kind <= 1 && most > 6) {
            kind = 3;
        }
        return Model.partCount(kind) >= most ? 2 : kind;
    }

    private int valueFor(int kind) {
        switch (kind) {
            case 0:
                return random.nextInt(30) == 0 ? random.nextInt() : random.nextInt(4) - 1;
            case 6:
                return random.nextInt(30) == 0 ? 2 : random.nextInt(2);
            case 12:
            case 13:
                return random.nextInt(2);
            case 16:
                return random.nextInt(3);
            default:
                return random.nextInt(symbols);
        }
    }
}
