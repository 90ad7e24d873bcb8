/**
 * A small Lisp with lexical and dynamic binding. Expressions are worked out on a stack of frames
 * that is kept in arrays, one frame for each token whose parts are being worked out.
 */
public final class BindingLisp {
    public static final int OK = 0, VOID = 1, TYPE = 2, MISSING = 3, ERROR = 4, LONG = 5, SYNTAX = 6, NONE = -1;
    public static final long NOTHING = 10000000000L;

    /** The kinds of tokens; ERROR is FAIL here, as the code has that name. */
    private static final int NUM = 0, VAR = 1, SET = 2, LET = 3, FUN = 4, CALL = 5, NAMED = 6;
    private static final int SEQ = 7, IF = 8, ADD = 9, SUB = 10, LESS = 11, CATCH = 12, THROW = 13;
    private static final int TRY = 14, PROTECT = 15, BUFFER = 16, LOCAL = 17, FAIL = 18;

    private static final int SYMBOLS = 8;
    private static final int BUFFERS = 3;
    private static final int FUNCTIONS = 4;
    private static final int TAGS = 4;
    private static final int ANY = 0;

    private static final int MOST_TOKENS = 48;
    /** The draft and, behind it, the functions, MOST_TOKENS for each of the five. */
    private static final int CODE = 240;
    /** The global places of all symbols and, behind them, those in each of the three buffers. */
    private static final int PLACES = 32;

    /** Also the length of the arrays below: a step makes at most one frame, one closure, one scope. */
    private static final int MOST_STEPS = 300;
    /** Far above the few turns that each of the steps can need. */
    private static final int MOST_TURNS = 1000000;

    private static final int ENTERING = 0, GIVING = 1, ENDING = 2;
    /** A throw to t is the ending THROWN + t, so that it cannot be taken for the code of an error. */
    private static final int THROWN = 16;
    private static final int NO_SCOPE = -1;
    private static final int NO_PLACE = -1;
    /** Values from here on are closures; ints and NOTHING, which stands for void, lie below. */
    private static final long FIRST_CLOSURE = 20000000000L;

    private final int[] tokenKinds = new int[CODE];
    private final int[] tokenValues = new int[CODE];
    private int draftLength = 0;
    private final boolean[] defined = new boolean[FUNCTIONS];
    private final int[] parameters = new int[FUNCTIONS];

    private final boolean[] specials = new boolean[SYMBOLS];
    private final long[] places = new long[PLACES];
    private final boolean[] localThere = new boolean[PLACES];

    private long latestResult = NOTHING;
    private boolean latestGaveClosure = false;
    private int stepsTaken = 0;

    private final int[] frameCode = new int[MOST_STEPS];
    private final int[] frameScope = new int[MOST_STEPS];
    private final int[] frameBuffer = new int[MOST_STEPS];
    private final int[] frameDone = new int[MOST_STEPS];
    private final long[] frameValue = new long[MOST_STEPS];
    private final int[] frameEnding = new int[MOST_STEPS];
    private final int[] keptPlace = new int[MOST_STEPS];
    private final long[] keptValue = new long[MOST_STEPS];
    private int depth = 0;

    private final int[] closureCode = new int[MOST_STEPS];
    private final int[] closureScope = new int[MOST_STEPS];
    private int closureCount = 0;

    private final int[] scopeSymbol = new int[MOST_STEPS];
    private final long[] scopeValue = new long[MOST_STEPS];
    private final int[] scopeOuter = new int[MOST_STEPS];
    private int scopeCount = 0;

    private int mode = GIVING;
    private int at = 0;
    private int scope = NO_SCOPE;
    private int buffer = 0;
    private long given = 0;
    private int ending = OK;

    public BindingLisp() {
        forgetPlaces();
    }

    public int token(int kind, int value) {
        if (draftLength >= MOST_TOKENS || !isToken(kind, value)) {
            return NONE;
        }
        tokenKinds[draftLength] = kind;
        tokenValues[draftLength] = value;
        draftLength++;
        return draftLength;
    }

    public int wipe() {
        int had = draftLength;
        draftLength = 0;
        return had;
    }

    public boolean special(int s, boolean on) {
        if (!isSymbol(s)) {
            return false;
        }
        specials[s] = on;
        forgetPlaces();
        for (int k = 0; k < FUNCTIONS; k++) {
            defined[k] = false;
        }
        return true;
    }

    public boolean define(int k, int s) {
        if (k < 0 || k >= FUNCTIONS || !isSymbol(s) || !draftIsExpression()) {
            return false;
        }
        int start = functionStart(k);
        for (int i = 0; i < draftLength; i++) {
            tokenKinds[start + i] = tokenKinds[i];
            tokenValues[start + i] = tokenValues[i];
        }
        parameters[k] = s;
        defined[k] = true;
        draftLength = 0;
        return true;
    }

    public int run() {
        if (!draftIsExpression()) {
            return SYNTAX;
        }
        beginRun();
        for (int turn = 0; turn < MOST_TURNS && (mode == ENTERING || depth > 0); turn++) {
            if (mode == ENTERING) {
                enterToken();
            } else if (mode == GIVING) {
                resumeFrame();
            } else {
                unwindFrame();
            }
        }
        finishRun();
        return ending;
    }

    public long result() {
        return latestResult;
    }

    public boolean closure() {
        return latestGaveClosure;
    }

    public int steps() {
        return stepsTaken;
    }

    public long global(int s) {
        return isSymbol(s) ? places[s] : NOTHING;
    }

    public long local(int b, int s) {
        return hasLocal(b, s) ? places[localPlace(b, s)] : NOTHING;
    }

    public boolean isLocal(int b, int s) {
        return hasLocal(b, s);
    }

    public boolean set(int s, int v) {
        if (!isSymbol(s)) {
            return false;
        }
        places[s] = v;
        return true;
    }

    public boolean kill(int b, int s) {
        if (!hasLocal(b, s)) {
            return false;
        }
        localThere[localPlace(b, s)] = false;
        return true;
    }

    private static boolean isSymbol(int s) {
        return s >= 0 && s < SYMBOLS;
    }

    private static boolean isToken(int kind, int value) {
        if (kind < NUM || kind > FAIL) {
            return false;
        }
        int bound = valueBound(kind);
        return bound == ANY || (value >= 0 && value < bound);
    }

    private static int valueBound(int kind) {
        switch (kind) {
            case VAR:
            case SET:
            case LET:
            case FUN:
            case LOCAL:
                return SYMBOLS;
            case NAMED:
                return FUNCTIONS;
            case CATCH:
            case THROW:
                return TAGS;
            case BUFFER:
                return BUFFERS;
            default:
                return ANY;
        }
    }

    private static int partCount(int kind) {
        switch (kind) {
            case NUM:
            case VAR:
            case FAIL:
                return 0;
            case SET:
            case FUN:
            case NAMED:
            case CATCH:
            case THROW:
            case BUFFER:
            case LOCAL:
                return 1;
            case IF:
                return 3;
            default:
                return 2;
        }
    }

    private boolean draftIsExpression() {
        int due = 1;
        for (int i = 0; i < draftLength; i++) {
            if (due == 0) {
                return false;
            }
            due += partCount(tokenKinds[i]) - 1;
        }
        return due == 0;
    }

    private int behindExpression(int start) {
        int due = 1;
        int next = start;
        for (; next < CODE && due > 0; next++) {
            due += partCount(tokenKinds[next]) - 1;
        }
        return next;
    }

    private static int functionStart(int k) {
        return (k + 1) * MOST_TOKENS;
    }

    private void forgetPlaces() {
        for (int i = 0; i < PLACES; i++) {
            places[i] = NOTHING;
            localThere[i] = false;
        }
    }

    private boolean hasLocal(int b, int s) {
        return b >= 0 && b < BUFFERS && isSymbol(s) && localThere[localPlace(b, s)];
    }

    private static int localPlace(int b, int s) {
        return (b + 1) * SYMBOLS + s;
    }

    private int presentPlace(int s) {
        int inBuffer = localPlace(buffer, s);
        return localThere[inBuffer] ? inBuffer : s;
    }

    /** A special symbol is never bound in a scope, so none is found for it. */
    private int scopeOf(int s, int innermost) {
        int found = innermost;
        for (int hop = 0; hop < MOST_STEPS && found != NO_SCOPE; hop++) {
            if (scopeSymbol[found] == s) {
                return found;
            }
            found = scopeOuter[found];
        }
        return NO_SCOPE;
    }

    private static boolean isClosure(long value) {
        return value >= FIRST_CLOSURE;
    }

    private void beginRun() {
        stepsTaken = 0;
        depth = 0;
        closureCount = 0;
        scopeCount = 0;
        buffer = 0;
        at = 0;
        scope = NO_SCOPE;
        mode = ENTERING;
    }

    private void finishRun() {
        boolean gaveClosure = isClosure(given);
        latestGaveClosure = ending == OK && gaveClosure;
        latestResult = ending == OK && !gaveClosure ? given : NOTHING;
        for (int i = 0; i < PLACES; i++) {
            if (isClosure(places[i])) {
                places[i] = NOTHING;
            }
        }
    }

    private void give(long value) {
        given = value;
        ending = OK;
        mode = GIVING;
    }

    /** What a throw throws stays in given, which nothing changes until it is caught or kept. */
    private void endWith(int how) {
        ending = how;
        mode = ENDING;
    }

    private void enterToken() {
        if (stepsTaken >= MOST_STEPS) {
            endWith(LONG);
            return;
        }
        stepsTaken++;
        switch (tokenKinds[at]) {
            case NUM:
                give(tokenValues[at]);
                break;
            case VAR:
                giveVariable(tokenValues[at]);
                break;
            case FUN:
                giveNewClosure();
                break;
            case FAIL:
                endWith(ERROR);
                break;
            default:
                openFrame();
        }
    }

    private void giveVariable(int s) {
        int inner = scopeOf(s, scope);
        long held = inner != NO_SCOPE ? scopeValue[inner] : places[presentPlace(s)];
        if (held == NOTHING) {
            endWith(VOID);
        } else {
            give(held);
        }
    }

    private void giveNewClosure() {
        closureCode[closureCount] = at;
        closureScope[closureCount] = scope;
        give(FIRST_CLOSURE + closureCount);
        closureCount++;
    }

    private void openFrame() {
        frameCode[depth] = at;
        frameScope[depth] = scope;
        frameBuffer[depth] = buffer;
        frameDone[depth] = 0;
        keptPlace[depth] = NO_PLACE;
        depth++;
        if (tokenKinds[at] == BUFFER) {
            buffer = tokenValues[at];
        }
        startPart(1);
    }

    /** Every way to end comes through here, so that what was bound is given back in each of them. */
    private void closeFrame() {
        depth--;
        if (keptPlace[depth] != NO_PLACE) {
            places[keptPlace[depth]] = keptValue[depth];
        }
        buffer = frameBuffer[depth];
    }

    private void startPart(int number) {
        int frame = depth - 1;
        int start = frameCode[frame] + 1;
        for (int part = 1; part < number; part++) {
            start = behindExpression(start);
        }
        startAt(start, frameScope[frame]);
    }

    private void startAt(int start, int inScope) {
        at = start;
        scope = inScope;
        mode = ENTERING;
    }

    /** A frame binds at most once, so it needs to keep one value only. Answers the scope for inside. */
    private int bind(int s, int outer) {
        if (specials[s]) {
            int place = presentPlace(s);
            keptPlace[depth - 1] = place;
            keptValue[depth - 1] = places[place];
            places[place] = given;
            return outer;
        }
        int inner = scopeCount;
        scopeSymbol[inner] = s;
        scopeValue[inner] = given;
        scopeOuter[inner] = outer;
        scopeCount++;
        return inner;
    }

    private void resumeFrame() {
        int frame = depth - 1;
        int token = frameCode[frame];
        frameDone[frame]++;
        switch (tokenKinds[token]) {
            case SET:
                resumeSet(frame, tokenValues[token]);
                break;
            case LET:
                resumeLet(frame, tokenValues[token]);
                break;
            case CALL:
                resumeCall(frame);
                break;
            case NAMED:
                resumeNamed(frame, tokenValues[token]);
                break;
            case SEQ:
                resumeSeq(frame);
                break;
            case IF:
                resumeIf(frame);
                break;
            case ADD:
            case SUB:
            case LESS:
                resumeSum(frame, tokenKinds[token]);
                break;
            case THROW:
                throwTo(tokenValues[token]);
                break;
            case PROTECT:
                if (frameDone[frame] == 1) {
                    startProtection(frame);
                } else {
                    endProtection(frame);
                }
                break;
            case LOCAL:
                resumeLocal(tokenValues[token]);
                break;
            default:
                // CATCH, TRY and BUFFER give what their part gave
                closeFrame();
        }
    }

    private void resumeSet(int frame, int s) {
        int inner = scopeOf(s, frameScope[frame]);
        if (inner != NO_SCOPE) {
            scopeValue[inner] = given;
        } else {
            places[presentPlace(s)] = given;
        }
        closeFrame();
    }

    private void resumeLet(int frame, int s) {
        if (frameDone[frame] == 1) {
            int inner = bind(s, frameScope[frame]);
            startPart(2);
            scope = inner;
        } else {
            closeFrame();
        }
    }

    private void resumeCall(int frame) {
        if (frameDone[frame] == 1) {
            frameValue[frame] = given;
            startPart(2);
        } else if (frameDone[frame] == 3) {
            closeFrame();
        } else if (!isClosure(frameValue[frame])) {
            endWith(TYPE);
        } else {
            int number = (int) (frameValue[frame] - FIRST_CLOSURE);
            int fun = closureCode[number];
            int inner = bind(tokenValues[fun], closureScope[number]);
            startAt(fun + 1, inner);
        }
    }

    private void resumeNamed(int frame, int k) {
        if (frameDone[frame] == 2) {
            closeFrame();
        } else if (!defined[k]) {
            endWith(MISSING);
        } else {
            int inner = bind(parameters[k], NO_SCOPE);
            int start = functionStart(k);
            startAt(start, inner);
        }
    }

    private void resumeSeq(int frame) {
        if (frameDone[frame] == 1) {
            startPart(2);
        } else {
            closeFrame();
        }
    }

    private void resumeIf(int frame) {
        if (frameDone[frame] == 1) {
            startPart(given != 0 ? 2 : 3);
        } else {
            closeFrame();
        }
    }

    private void resumeSum(int frame, int kind) {
        if (frameDone[frame] == 1) {
            frameValue[frame] = given;
            startPart(2);
            return;
        }
        long first = frameValue[frame];
        if (isClosure(first) || isClosure(given)) {
            endWith(TYPE);
            return;
        }
        closeFrame();
        if (kind == LESS) {
            give(first < given ? 1 : 0);
        } else {
            give((int) (kind == ADD ? first + given : first - given));
        }
    }

    private void throwTo(int tag) {
        if (hasCatch(tag)) {
            endWith(THROWN + tag);
        } else {
            endWith(MISSING);
        }
    }

    private boolean hasCatch(int tag) {
        for (int frame = 0; frame < depth; frame++) {
            int token = frameCode[frame];
            if (tokenKinds[token] == CATCH && tokenValues[token] == tag) {
                return true;
            }
        }
        return false;
    }

    /** Keeps how the first part ended and with what, to go on with it after the second. */
    private void startProtection(int frame) {
        frameDone[frame] = 1;
        frameValue[frame] = given;
        frameEnding[frame] = ending;
        startPart(2);
    }

    private void endProtection(int frame) {
        closeFrame();
        give(frameValue[frame]);
        if (frameEnding[frame] != OK) {
            endWith(frameEnding[frame]);
        }
    }

    private void resumeLocal(int s) {
        int place = localPlace(buffer, s);
        localThere[place] = true;
        places[place] = given;
        closeFrame();
    }

    private void unwindFrame() {
        int frame = depth - 1;
        int token = frameCode[frame];
        int kind = tokenKinds[token];
        boolean inFirstPart = frameDone[frame] == 0;
        if (ending == LONG) {
            closeFrame();
        } else if (kind == CATCH && ending == THROWN + tokenValues[token]) {
            closeFrame();
            give(given);
        } else if (kind == TRY && inFirstPart && ending < THROWN) {
            frameDone[frame] = 1;
            startPart(2);
        } else if (kind == PROTECT && inFirstPart) {
            startProtection(frame);
        } else {
            closeFrame();
        }
    }
}
