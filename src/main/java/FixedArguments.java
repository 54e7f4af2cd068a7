public final class FixedArguments {
    public static final int BAD_ARG = -1;
    public static final int FULL = -2;
    public static final int TOO_FEW = -3;
    public static final int DONE = 0;
    public static final int TIRED = 1;

    private static final int FUNCTIONS = 4;
    private static final int MAX_TERMS = 14;
    private static final int MAX_CALLS = 60;
    private static final int GREATEST_CONSTANT = 20;
    private static final int MOST_RUNS = 8;
    private static final int LAST_TRIED = 15;

    // The kinds 0 to 7 are the ops of two, so that an op is kept as it comes.
    private static final int ADD = 0;
    private static final int SUB = 1;
    private static final int MUL = 2;
    private static final int LESS = 3;
    private static final int CALL = 4;
    private static final int LAST_OP = 7;
    private static final int CONSTANT = 8;
    private static final int FIRST = 9;
    private static final int SECOND = 10;
    private static final int CHOOSE = 11;

    // One row of terms for each function, and one more for the terms being made.
    private static final int DRAFT = FUNCTIONS * MAX_TERMS;
    private static final int ALL_TERMS = DRAFT + MAX_TERMS;

    // A place in a body is never 0 when work goes on there: it only goes forward.
    private static final int NOWHERE = 0;

    // A call works out each term of its body at most once, and returns once.
    private static final int MAX_STEPS = MAX_CALLS * (MAX_TERMS + 1);
    private static final int MAX_VALUES = MAX_CALLS * MAX_TERMS;

    // The terms of a row stand in the order they were made, which is also the
    // order they are worked out in, but for the part that a choose leaves out.
    private final int[] kind = new int[ALL_TERMS];
    private final int[] number = new int[ALL_TERMS];
    // Set where the term is the C of a choose: the place where its Y begins.
    private final int[] elsePlace = new int[ALL_TERMS];
    // Set where the term is the X of a choose: the place of that choose.
    private final int[] jumpPlace = new int[ALL_TERMS];
    private final int[] bodySize = new int[FUNCTIONS];

    // The stack holds places in the draft row.
    private final int[] stack = new int[MAX_TERMS];
    private int stacked;
    private int made;

    // What follows is set anew by each run and means nothing between runs.
    private final int[] openFunction = new int[MAX_CALLS];
    private final int[] openFirst = new int[MAX_CALLS];
    private final int[] openSecond = new int[MAX_CALLS];
    private final int[] openPlace = new int[MAX_CALLS];
    private int open;
    private final int[] values = new int[MAX_VALUES];
    private int valueCount;
    private final int[] entered = new int[FUNCTIONS];
    private int enteredInAll;
    private boolean tired;

    public FixedArguments() {
        for (int f = 0; f < FUNCTIONS; f++) {
            kind[f * MAX_TERMS] = CONSTANT;
            bodySize[f] = 1;
        }
    }

    public int constant(int c) {
        if (c < -GREATEST_CONSTANT || c > GREATEST_CONSTANT) {
            return BAD_ARG;
        }
        if (made >= MAX_TERMS) {
            return FULL;
        }
        return pushTerm(CONSTANT, c);
    }

    public int argument(int which) {
        if (which != 0 && which != 1) {
            return BAD_ARG;
        }
        if (made >= MAX_TERMS) {
            return FULL;
        }
        return pushTerm(which == 0 ? FIRST : SECOND, 0);
    }

    public int two(int op) {
        if (op < 0 || op > LAST_OP) {
            return BAD_ARG;
        }
        if (made >= MAX_TERMS) {
            return FULL;
        }
        if (stacked < 2) {
            return TOO_FEW;
        }
        stacked -= 2;
        return pushTerm(op, 0);
    }

    public int choose() {
        if (made >= MAX_TERMS) {
            return FULL;
        }
        if (stacked < 3) {
            return TOO_FEW;
        }
        stacked -= 3;
        int c = at(stack, stacked);
        int x = at(stack, stacked + 1);
        put(elsePlace, DRAFT + c, x + 1);
        put(jumpPlace, DRAFT + x, made);
        return pushTerm(CHOOSE, 0);
    }

    public int define(int f) {
        if (!isFunction(f)) {
            return BAD_ARG;
        }
        if (stacked != 1) {
            return TOO_FEW;
        }
        int size = made;
        copyDraftTo(f);
        emptyStack();
        return size;
    }

    public void discard() {
        emptyStack();
    }

    public int depth() {
        return stacked;
    }

    public int run(int f, int a, int b) {
        if (!isFunction(f)) {
            return 0;
        }
        return valueOfRun(f, a, b);
    }

    public int ending(int f, int a, int b) {
        if (!isFunction(f)) {
            return BAD_ARG;
        }
        valueOfRun(f, a, b);
        return tired ? TIRED : DONE;
    }

    public int calls(int f, int a, int b) {
        if (!isFunction(f)) {
            return BAD_ARG;
        }
        valueOfRun(f, a, b);
        return enteredInAll;
    }

    public int callsOf(int f, int a, int b, int g) {
        if (!isFunction(f) || !isFunction(g)) {
            return BAD_ARG;
        }
        valueOfRun(f, a, b);
        return at(entered, g);
    }

    public int sumOver(int f, int a, int b, int n) {
        if (!isFunction(f) || n < 0 || n > MOST_RUNS) {
            return 0;
        }
        int sum = 0;
        for (int i = 0; i < n; i++) {
            sum += valueOfRun(f, a, b + i);
        }
        return sum;
    }

    public int solve(int f, int a, int v) {
        if (!isFunction(f)) {
            return -1;
        }
        for (int i = 0; i <= LAST_TRIED; i++) {
            int value = valueOfRun(f, a, i);
            // A tired run has the value 0 here, which must not pass for a v of 0.
            if (!tired && value == v) {
                return i;
            }
        }
        return -1;
    }

    private boolean isFunction(int f) {
        return f >= 0 && f < FUNCTIONS;
    }

    // Every index but a loop's counter or a plain 0 is looked at here, so that no
    // call can throw whatever the fields hold; calls alone never lead outside.
    private int at(int[] array, int index) {
        return index >= 0 && index < array.length ? array[index] : 0;
    }

    private void put(int[] array, int index, int value) {
        if (index >= 0 && index < array.length) {
            array[index] = value;
        }
    }

    private int pushTerm(int newKind, int newNumber) {
        int term = DRAFT + made;
        put(kind, term, newKind);
        put(number, term, newNumber);
        put(elsePlace, term, NOWHERE);
        put(jumpPlace, term, NOWHERE);
        put(stack, stacked, made);
        stacked++;
        made++;
        return stacked;
    }

    // With one term on the stack, every term made is a part of it.
    private void copyDraftTo(int f) {
        copyDraftRow(kind, f);
        copyDraftRow(number, f);
        copyDraftRow(elsePlace, f);
        copyDraftRow(jumpPlace, f);
        put(bodySize, f, made);
    }

    private void copyDraftRow(int[] terms, int f) {
        int row = f * MAX_TERMS;
        // All of the row: what stands behind the last term made is never read.
        for (int i = 0; i < MAX_TERMS; i++) {
            int copied = at(terms, DRAFT + i);
            put(terms, row + i, copied);
        }
    }

    private void emptyStack() {
        stacked = 0;
        made = 0;
    }

    // The value of the run, 0 if it is tired; the counts and tired tell the rest.
    private int valueOfRun(int f, int a, int b) {
        startRun();
        enter(f, a, b);
        for (int step = 0; step < MAX_STEPS && open > 0 && !tired; step++) {
            int g = at(openFunction, open - 1);
            int place = at(openPlace, open - 1);
            int term = g * MAX_TERMS + place;
            int termKind = at(kind, term);
            if (place >= at(bodySize, g)) {
                leave();
            } else if (termKind <= LAST_OP) {
                workOutTwo(termKind);
            } else {
                workOutOther(term);
            }
        }
        return tired ? 0 : values[0];
    }

    private void startRun() {
        open = 0;
        valueCount = 0;
        enteredInAll = 0;
        for (int g = 0; g < FUNCTIONS; g++) {
            entered[g] = 0;
        }
        tired = false;
    }

    private void enter(int g, int a, int b) {
        if (enteredInAll >= MAX_CALLS) {
            tired = true;
            return;
        }
        int enteredBefore = at(entered, g);
        put(entered, g, enteredBefore + 1);
        enteredInAll++;
        put(openFunction, open, g);
        put(openFirst, open, a);
        put(openSecond, open, b);
        put(openPlace, open, 0);
        open++;
    }

    // The value of the body stays behind as the value of the caller's call term.
    private void leave() {
        open--;
        if (open > 0) {
            goOn();
        }
    }

    private void workOutTwo(int op) {
        valueCount -= 2;
        int x = at(values, valueCount);
        int y = at(values, valueCount + 1);
        if (op >= CALL) {
            // The caller goes on only when the call is left.
            enter(op - CALL, x, y);
        } else {
            int value = combined(op, x, y);
            pushValue(value);
            goOn();
        }
    }

    private void workOutOther(int term) {
        int termKind = at(kind, term);
        int value = at(number, term);
        if (termKind == FIRST) {
            value = at(openFirst, open - 1);
        } else if (termKind == SECOND) {
            value = at(openSecond, open - 1);
        }
        // A choose pushes nothing: the value of its X or Y is on top already.
        if (termKind != CHOOSE) {
            pushValue(value);
        }
        goOn();
    }

    private int combined(int op, int x, int y) {
        switch (op) {
            case ADD:
                return x + y;
            case SUB:
                return x - y;
            case MUL:
                return x * y;
            case LESS:
            default:
                return x < y ? 1 : 0;
        }
    }

    private void pushValue(int value) {
        put(values, valueCount, value);
        valueCount++;
    }

    // Moves the open call past the term whose value has just become known.
    private void goOn() {
        int g = at(openFunction, open - 1);
        int place = at(openPlace, open - 1);
        int term = g * MAX_TERMS + place;
        int ifZero = at(elsePlace, term);
        int jump = at(jumpPlace, term);
        int next = place + 1;
        if (ifZero != NOWHERE) {
            valueCount--;
            if (at(values, valueCount) == 0) {
                next = ifZero;
            }
        } else if (jump != NOWHERE) {
            next = jump;
        }
        put(openPlace, open - 1, next);
    }
}
