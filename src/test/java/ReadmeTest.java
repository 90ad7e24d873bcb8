import java.io.IOException;
import java.nio.file.Files;
import java.nio.file.Path;

/** The examples of README.md, with the answers that it tells, and its table of the tokens. */
public final class ReadmeTest {
    private static final int KINDS = 19, MOST_PARTS = 3;

    public static void main(String[] args) throws IOException {
        Checks checks = new Checks();
        sum(checks);
        twice(checks);
        table(checks, Files.readString(Path.of("README.md")));
        checks.end();
    }

    private static void sum(Checks checks) {
        BindingLisp x = new BindingLisp();
        checks.yes("set", x.set(0, 5));
        checks.same("ADD", x.token(9, 0), 1);
        checks.same("VAR 0", x.token(1, 0), 2);
        checks.same("NUM 2", x.token(0, 2), 3);
        checks.same("run", x.run(), BindingLisp.OK);
        checks.same("result", x.result(), 7);
        checks.same("steps", x.steps(), 3);
    }

    private static void twice(Checks checks) {
        BindingLisp y = new BindingLisp();
        checks.yes("special", y.special(1, true));
        checks.yes("set", y.set(1, 10));
        checks.same("ADD", y.token(9, 0), 1);
        checks.same("VAR 1", y.token(1, 1), 2);
        checks.same("VAR 1", y.token(1, 1), 3);
        checks.yes("define", y.define(0, 1));
        checks.same("NAMED 0", y.token(6, 0), 1);
        checks.same("NUM 21", y.token(0, 21), 2);
        checks.same("run", y.run(), BindingLisp.OK);
        checks.same("result", y.result(), 42);
        checks.same("global", y.global(1), 10);
    }

    private static void table(Checks checks, String readme) {
        for (int kind = 0; kind < KINDS; kind++) {
            String[] cells = readme.split("\\| " + kind + " [A-Z]+ \\|")[1].split("\\|");
            String value = cells[0].trim();
            String parts = cells[1].trim();
            int most = value.contains("..") ? value.charAt(value.length() - 1) - '0' : Integer.MAX_VALUE;
            checks.same("greatest value of kind " + kind, greatest(kind), most);
            checks.same("parts of kind " + kind, parts(kind), parts.isEmpty() ? 0 : Integer.parseInt(parts));
        }
    }

    private static int greatest(int kind) {
        int most = Integer.MAX_VALUE;
        for (int value = 0; value < 10; value++) {
            if (new BindingLisp().token(kind, value) == BindingLisp.NONE) {
                most = Math.min(most, value - 1);
            }
        }
        return most;
    }

    private static int parts(int kind) {
        for (int parts = 0; parts <= MOST_PARTS; parts++) {
            BindingLisp x = new BindingLisp();
            x.token(kind, 0);
            for (int part = 0; part < parts; part++) {
                x.token(0, 0);
            }
            if (x.define(0, 0)) {
                return parts;
            }
        }
        return -1;
    }
}
