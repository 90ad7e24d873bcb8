import java.util.ArrayList;
import java.util.HashMap;
import java.util.List;
import java.util.Map;

/**
 * The document once more, written as plainly as the Java library, recursion and exceptions allow,
 * for ModelTest to compare the class with. A value is an Integer or a Closure; void is null.
 */
final class Model {
    private static final int[] PART_COUNTS = {0, 0, 1, 2, 1, 2, 1, 2, 3, 2, 2, 2, 1, 1, 2, 2, 1, 1, 0};
    private static final int[] BOUNDS = {0, 8, 8, 8, 8, 0, 4, 0, 0, 0, 0, 0, 4, 4, 0, 0, 3, 8, 0};

    private static final class Node {
        final int kind;
        final int value;
        final Node[] parts;

        Node(int kind, int value) {
            this.kind = kind;
            this.value = value;
            this.parts = new Node[PART_COUNTS[kind]];
        }
    }

    /** A box that holds a value, so that a place can be kept hold of. */
    private static final class Box {
        Object value;

        Box(Object value) {
            this.value = value;
        }
    }

    private static final class Scope {
        final int symbol;
        final Box box;
        final Scope outer;

        Scope(int symbol, Box box, Scope outer) {
            this.symbol = symbol;
            this.box = box;
            this.outer = outer;
        }
    }

    private record Closure(int parameter, Node body, Scope scope) { }

    private record Function(int parameter, Node body) { }

    private abstract static class Ending extends RuntimeException {
        private static final long serialVersionUID = 1L;

        Ending() {
            super(null, null, false, false);
        }
    }

    private static final class Failed extends Ending {
        private static final long serialVersionUID = 1L;
        final int code;

        Failed(int code) {
            this.code = code;
        }
    }

    private static final class Thrown extends Ending {
        private static final long serialVersionUID = 1L;
        final int tag;
        final transient Object value;

        Thrown(int tag, Object value) {
            this.tag = tag;
            this.value = value;
        }
    }

    private static final class TooLong extends Ending {
        private static final long serialVersionUID = 1L;
    }

    private final List<int[]> draft = new ArrayList<>();
    private final boolean[] specials = new boolean[8];
    private final Map<Integer, Function> functions = new HashMap<>();
    private final Box[] globals = new Box[8];
    private final Box[][] locals = new Box[3][8];
    private long result = BindingLisp.NOTHING;
    private boolean closure = false;
    private int steps = 0;
    private int buffer = 0;
    private final int[] catches = new int[4];
    private int parsed = 0;

    Model() {
        forget();
    }

    static int partCount(int kind) {
        return PART_COUNTS[kind];
    }

    private void forget() {
        for (int s = 0; s < 8; s++) {
            globals[s] = new Box(null);
            for (int b = 0; b < 3; b++) {
                locals[b][s] = null;
            }
        }
        functions.clear();
    }

    int token(int kind, int value) {
        if (kind < 0 || kind > 18 || draft.size() == 48) {
            return -1;
        }
        if (BOUNDS[kind] > 0 && (value < 0 || value >= BOUNDS[kind])) {
            return -1;
        }
        draft.add(new int[] {kind, value});
        return draft.size();
    }

    int wipe() {
        int had = draft.size();
        draft.clear();
        return had;
    }

    boolean special(int s, boolean on) {
        if (s < 0 || s > 7) {
            return false;
        }
        specials[s] = on;
        forget();
        return true;
    }

    boolean define(int k, int s) {
        Node body = wholeDraft();
        if (k < 0 || k > 3 || s < 0 || s > 7 || body == null) {
            return false;
        }
        functions.put(k, new Function(s, body));
        draft.clear();
        return true;
    }

    /** The draft as a tree, or null if it is not one expression. */
    private Node wholeDraft() {
        parsed = 0;
        Node node = nextNode();
        return parsed == draft.size() ? node : null;
    }

    private Node nextNode() {
        if (parsed >= draft.size()) {
            parsed = Integer.MAX_VALUE;
            return null;
        }
        int[] token = draft.get(parsed);
        parsed++;
        Node node = new Node(token[0], token[1]);
        for (int i = 0; i < node.parts.length; i++) {
            node.parts[i] = nextNode();
        }
        return node;
    }

    int run() {
        Node node = wholeDraft();
        if (node == null) {
            return 6;
        }
        steps = 0;
        buffer = 0;
        result = BindingLisp.NOTHING;
        closure = false;
        int code = 0;
        try {
            Object value = work(node, null);
            closure = value instanceof Closure;
            result = closure ? BindingLisp.NOTHING : (Integer) value;
        } catch (Failed failed) {
            code = failed.code;
        } catch (TooLong tooLong) {
            code = 5;
        }
        for (int s = 0; s < 8; s++) {
            dropClosure(globals[s]);
            for (int b = 0; b < 3; b++) {
                dropClosure(locals[b][s]);
            }
        }
        return code;
    }

    private static void dropClosure(Box box) {
        if (box != null && box.value instanceof Closure) {
            box.value = null;
        }
    }

    private Object work(Node n, Scope scope) {
        if (steps == 300) {
            throw new TooLong();
        }
        steps++;
        switch (n.kind) {
            case 0:
                return n.value;
            case 1:
                return valueOf(n.value, scope);
            case 2: {
                Object value = work(n.parts[0], scope);
                boxOf(n.value, scope).value = value;
                return value;
            }
            case 3: {
                Object value = work(n.parts[0], scope);
                return bound(n.value, value, scope, n.parts[1]);
            }
            case 4:
                return new Closure(n.value, n.parts[0], scope);
            case 5:
                return call(work(n.parts[0], scope), work(n.parts[1], scope));
            case 6:
                return callNamed(n.value, work(n.parts[0], scope));
            case 7:
                work(n.parts[0], scope);
                return work(n.parts[1], scope);
            case 8:
                return work(Integer.valueOf(0).equals(work(n.parts[0], scope)) ? n.parts[2] : n.parts[1], scope);
            case 9:
            case 10:
            case 11:
                return sum(n.kind, work(n.parts[0], scope), work(n.parts[1], scope));
            case 12:
                return caught(n, scope);
            case 13:
                return thrown(n.value, work(n.parts[0], scope));
            case 14:
                return tried(n, scope);
            case 15:
                return guarded(n, scope);
            case 16:
                return inBuffer(n, scope);
            case 17: {
                Object value = work(n.parts[0], scope);
                if (locals[buffer][n.value] == null) {
                    locals[buffer][n.value] = new Box(null);
                }
                locals[buffer][n.value].value = value;
                return value;
            }
            default:
                throw new Failed(4);
        }
    }

    private Box boxOf(int s, Scope scope) {
        for (Scope here = scope; here != null; here = here.outer) {
            if (here.symbol == s && !specials[s]) {
                return here.box;
            }
        }
        return presentBox(s);
    }

    private Box presentBox(int s) {
        return locals[buffer][s] != null ? locals[buffer][s] : globals[s];
    }

    private Object valueOf(int s, Scope scope) {
        Object value = boxOf(s, scope).value;
        if (value == null) {
            throw new Failed(1);
        }
        return value;
    }

    private Object bound(int s, Object value, Scope outer, Node inside) {
        if (!specials[s]) {
            return work(inside, new Scope(s, new Box(value), outer));
        }
        Box box = presentBox(s);
        Object kept = box.value;
        box.value = value;
        try {
            return work(inside, outer);
        } finally {
            box.value = kept;
        }
    }

    private Object call(Object called, Object with) {
        if (called instanceof Closure c) {
            return bound(c.parameter(), with, c.scope(), c.body());
        }
        throw new Failed(2);
    }

    private Object callNamed(int k, Object with) {
        Function function = functions.get(k);
        if (function == null) {
            throw new Failed(3);
        }
        return bound(function.parameter(), with, null, function.body());
    }

    private static Object sum(int kind, Object one, Object other) {
        if (one instanceof Integer a && other instanceof Integer b) {
            return kind == 9 ? a + b : kind == 10 ? a - b : a < b ? 1 : 0;
        }
        throw new Failed(2);
    }

    private Object caught(Node n, Scope scope) {
        catches[n.value]++;
        try {
            return work(n.parts[0], scope);
        } catch (Thrown thrown) {
            if (thrown.tag == n.value) {
                return thrown.value;
            }
            throw thrown;
        } finally {
            catches[n.value]--;
        }
    }

    private Object thrown(int tag, Object value) {
        if (catches[tag] == 0) {
            throw new Failed(3);
        }
        throw new Thrown(tag, value);
    }

    private Object tried(Node n, Scope scope) {
        try {
            return work(n.parts[0], scope);
        } catch (Failed failed) {
            return work(n.parts[1], scope);
        }
    }

    private Object guarded(Node n, Scope scope) {
        Object value;
        try {
            value = work(n.parts[0], scope);
        } catch (Failed | Thrown ending) {
            work(n.parts[1], scope);
            throw ending;
        }
        work(n.parts[1], scope);
        return value;
    }

    private Object inBuffer(Node n, Scope scope) {
        int before = buffer;
        buffer = n.value;
        try {
            return work(n.parts[0], scope);
        } finally {
            buffer = before;
        }
    }

    long result() {
        return result;
    }

    boolean closure() {
        return closure;
    }

    int steps() {
        return steps;
    }

    long global(int s) {
        return s < 0 || s > 7 ? BindingLisp.NOTHING : held(globals[s]);
    }

    long local(int b, int s) {
        return isLocal(b, s) ? held(locals[b][s]) : BindingLisp.NOTHING;
    }

    private static long held(Box box) {
        return box.value instanceof Integer n ? n : BindingLisp.NOTHING;
    }

    boolean isLocal(int b, int s) {
        return b >= 0 && b < 3 && s >= 0 && s < 8 && locals[b][s] != null;
    }

    boolean set(int s, int v) {
        if (s < 0 || s > 7) {
            return false;
        }
        globals[s].value = v;
        return true;
    }

    boolean kill(int b, int s) {
        boolean had = isLocal(b, s);
        if (had) {
            locals[b][s] = null;
        }
        return had;
    }
}
