/** Promises 1 to 8 and 15: the stack, its limits, and what is refused. */
public final class BuildingTest {
    private static final int MIN = Integer.MIN_VALUE;
    private static final int MAX = Integer.MAX_VALUE;
    private static final Check check = new Check();

    public static void main(String[] args) {
        newObject();
        constants();
        arguments();
        twos();
        twoTakesTheTopAsY();
        chooses();
        fullAtTheFifteenthTerm();
        orderOfRefusals();
        refusedCallsChangeNothing();
        defines();
        defineReplacesOneBodyOnly();
        discards();
        runsLeaveTheStackAlone();
        check.end();
    }

    private static void newObject() {
        FixedArguments x = new FixedArguments();
        check.due("1: depth of a new object", x.depth(), 0);
        for (int f = 0; f < 4; f++) {
            check.due("1: run of new " + f, x.run(f, 7, -9), 0);
            check.due("1: ending of new " + f, x.ending(f, 7, -9), FixedArguments.DONE);
            check.due("1: calls of new " + f, x.calls(f, 7, -9), 1);
            check.due("1: callsOf of new " + f, x.callsOf(f, 7, -9, f), 1);
        }
        check.due("1: fourteen terms fit a new object", fill(x), 14);
    }

    private static void constants() {
        int[] good = {-20, -19, -1, 0, 1, 19, 20};
        int[] bad = {-21, 21, MIN, MAX};
        for (int c : good) {
            FixedArguments x = new FixedArguments();
            check.due("2: constant(" + c + ")", x.constant(c), 1);
            check.due("2: define", x.define(0), 1);
            check.due("2: value of constant " + c, x.run(0, 3, 4), c);
        }
        FixedArguments x = new FixedArguments();
        for (int c : bad) {
            check.due("2: constant(" + c + ")", x.constant(c), FixedArguments.BAD_ARG);
            check.due("2: depth after it", x.depth(), 0);
        }
        check.due("2: first constant", x.constant(3), 1);
        check.due("2: second constant", x.constant(3), 2);
    }

    private static void arguments() {
        FixedArguments x = new FixedArguments();
        int[] bad = {-1, 2, MIN, MAX};
        for (int which : bad) {
            check.due("3: argument(" + which + ")", x.argument(which), FixedArguments.BAD_ARG);
        }
        check.due("3: argument(0)", x.argument(0), 1);
        x.define(0);
        check.due("3: argument(1)", x.argument(1), 1);
        x.define(1);
        check.due("3: first", x.run(0, MIN, 8), MIN);
        check.due("3: second", x.run(1, 8, MAX), MAX);
        x.argument(1);
        check.due("3: the number on the stack", x.argument(0), 2);
    }

    private static void twos() {
        FixedArguments x = new FixedArguments();
        int[] bad = {-1, 8, MIN, MAX};
        for (int op : bad) {
            check.due("4: two(" + op + ")", x.two(op), FixedArguments.BAD_ARG);
        }
        for (int op = 0; op < 8; op++) {
            check.due("4: two(" + op + ") of none", x.two(op), FixedArguments.TOO_FEW);
            x.constant(1);
            check.due("4: two(" + op + ") of one", x.two(op), FixedArguments.TOO_FEW);
            x.constant(1);
            check.due("4: two(" + op + ") of two", x.two(op), 1);
            x.constant(1);
            x.constant(1);
            check.due("4: two(" + op + ") of three", x.two(op), 2);
            x.discard();
        }
    }

    private static void twoTakesTheTopAsY() {
        FixedArguments x = new FixedArguments();
        int[] want = {7 + 3, 7 - 3, 7 * 3, 0};
        for (int op = 0; op < 4; op++) {
            x.constant(7);
            x.constant(3);
            x.two(op);
            x.define(op);
            check.due("4: op " + op + " of 7 and 3", x.run(op, 0, 0), want[op]);
        }
        // The callees 0 to 3 tell themselves apart, and first from second.
        for (int g = 0; g < 4; g++) {
            FixedArguments y = new FixedArguments();
            y.argument(0);
            y.argument(1);
            y.two(1);
            y.define(g);
            y.constant(9);
            y.constant(4);
            y.two(4 + g);
            int caller = (g + 1) % 4;
            y.define(caller);
            check.due("4: call " + g + " of 9 and 4", y.run(caller, 0, 0), 5);
            check.due("4: calls of " + g, y.callsOf(caller, 0, 0, g), 1);
        }
    }

    private static void chooses() {
        FixedArguments x = new FixedArguments();
        for (int terms = 0; terms < 3; terms++) {
            check.due("5: choose of " + terms, x.choose(), FixedArguments.TOO_FEW);
            check.due("5: depth after it", x.depth(), terms);
            x.argument(0);
        }
        check.due("5: choose of three", x.choose(), 1);
        x.discard();
        x.constant(2);
        x.argument(0);
        x.constant(5);
        x.constant(6);
        check.due("5: choose of four", x.choose(), 2);
        x.two(0);
        x.define(0);
        check.due("5: C is 1", x.run(0, 1, 0), 7);
        check.due("5: C is 0", x.run(0, 0, 0), 8);
        check.due("5: C is -1", x.run(0, -1, 0), 7);
        check.due("5: C is the least int", x.run(0, MIN, 0), 7);
    }

    private static void fullAtTheFifteenthTerm() {
        FixedArguments x = new FixedArguments();
        check.due("2: constants until full", fill(x), 14);
        checkFull(x, 14);

        // Terms taken off the stack count as made all the same.
        FixedArguments y = new FixedArguments();
        y.constant(1);
        for (int i = 0; i < 6; i++) {
            y.argument(1);
            check.due("4: sum " + i, y.two(0), 1);
        }
        check.due("3: the 14th term", y.argument(0), 2);
        checkFull(y, 2);

        FixedArguments z = new FixedArguments();
        for (int i = 0; i < 13; i++) {
            z.constant(i);
        }
        check.due("4: the 14th term", z.two(7), 12);
        checkFull(z, 12);

        FixedArguments w = new FixedArguments();
        for (int i = 0; i < 13; i++) {
            w.constant(i);
        }
        check.due("5: the 14th term", w.choose(), 11);
        checkFull(w, 11);
    }

    private static void orderOfRefusals() {
        FixedArguments x = new FixedArguments();
        x.constant(1);
        check.due("4: BAD_ARG before TOO_FEW", x.two(8), FixedArguments.BAD_ARG);
        x.discard();
        check.due("15: BAD_ARG before TOO_FEW, none", x.define(4), FixedArguments.BAD_ARG);
        fill(x);
        check.due("15: BAD_ARG before TOO_FEW, many", x.define(-1), FixedArguments.BAD_ARG);
        check.due("2: BAD_ARG before FULL", x.constant(21), FixedArguments.BAD_ARG);
        check.due("2: BAD_ARG before FULL", x.constant(-21), FixedArguments.BAD_ARG);
        check.due("3: BAD_ARG before FULL", x.argument(2), FixedArguments.BAD_ARG);
        check.due("4: BAD_ARG before FULL", x.two(-1), FixedArguments.BAD_ARG);

        // One term on the stack with fourteen made: FULL and TOO_FEW both hold.
        FixedArguments y = oneOfFourteen();
        check.due("4: FULL before TOO_FEW", y.two(0), FixedArguments.FULL);
        check.due("5: FULL before TOO_FEW", y.choose(), FixedArguments.FULL);
        check.due("6: define of fourteen", y.define(0), 14);
    }

    private static void refusedCallsChangeNothing() {
        FixedArguments x = new FixedArguments();
        x.argument(0);
        for (int i = 0; i < 20; i++) {
            x.constant(21);
            x.argument(-1);
            x.two(8);
            x.two(1);
            x.choose();
            x.define(4);
        }
        check.due("refused: depth", x.depth(), 1);
        x.argument(1);
        x.choose();
        x.define(0);
        check.due("refused: depth of two", x.depth(), 2);
        check.due("refused: define changed no body", x.run(0, 5, 6), 0);
        x.two(1);
        check.due("refused: terms made", x.define(3), 3);
        check.due("refused: value", x.run(3, 10, 4), 6);

        FixedArguments y = oneOfFourteen();
        y.constant(1);
        y.argument(1);
        y.two(0);
        y.choose();
        check.due("refused when full: depth", y.depth(), 1);
        check.due("refused when full: terms made", y.define(0), 14);
        check.due("refused when full: value", y.run(0, 9, 1), 6);
        check.due("refused when full: value", y.run(0, 0, 1), 5);
    }

    private static void defines() {
        FixedArguments x = new FixedArguments();
        int[] bad = {-1, 4, MIN, MAX};
        x.constant(1);
        for (int f : bad) {
            check.due("6: define(" + f + ")", x.define(f), FixedArguments.BAD_ARG);
            check.due("6: depth after it", x.depth(), 1);
        }
        x.constant(2);
        check.due("6: define of two terms", x.define(0), FixedArguments.TOO_FEW);
        check.due("6: depth after it", x.depth(), 2);
        x.two(0);
        check.due("6: define of one term", x.define(0), 3);
        check.due("6: depth after define", x.depth(), 0);
        check.due("6: define of none", x.define(0), FixedArguments.TOO_FEW);
        check.due("6: the body stays", x.run(0, 0, 0), 3);
        check.due("6: no term counts as made after define", fill(x), 14);
    }

    private static void defineReplacesOneBodyOnly() {
        FixedArguments x = new FixedArguments();
        for (int f = 0; f < 4; f++) {
            x.argument(0);
            x.constant(f + 1);
            x.two(2);
            x.define(f);
        }
        // A choose where an arithmetic body was, then a plain body over the choose.
        x.argument(1);
        x.argument(0);
        x.constant(-3);
        x.choose();
        x.define(2);
        check.due("6: others stay", x.run(1, 10, 0), 20);
        check.due("6: others stay", x.run(3, 10, 0), 40);
        check.due("6: the new body", x.run(2, 10, 1), 10);
        check.due("6: the new body", x.run(2, 10, 0), -3);
        x.argument(1);
        x.argument(0);
        x.two(1);
        x.constant(5);
        x.two(0);
        check.due("6: five terms", x.define(2), 5);
        check.due("6: nothing of the old body is left", x.run(2, 10, 0), -5);
        check.due("6: nothing of the old body is left", x.run(2, 10, 7), 2);
        x.argument(1);
        check.due("6: a shorter body", x.define(2), 1);
        check.due("6: a shorter body's value", x.run(2, 10, 8), 8);
    }

    private static void discards() {
        FixedArguments x = new FixedArguments();
        x.constant(4);
        x.define(1);
        x.discard();
        check.due("7: discard of nothing", x.depth(), 0);
        fill(x);
        x.discard();
        check.due("7: depth after discard", x.depth(), 0);
        check.due("7: bodies stay", x.run(1, 0, 0), 4);
        check.due("7: nothing to define", x.define(1), FixedArguments.TOO_FEW);
        check.due("7: no term counts as made", fill(x), 14);
        // A choose that is discarded leaves no trace in what is made next.
        x.discard();
        x.constant(0);
        x.constant(1);
        x.constant(2);
        x.choose();
        x.discard();
        x.argument(0);
        x.argument(1);
        x.two(1);
        x.constant(5);
        x.two(0);
        check.due("7: terms made after discard", x.define(0), 5);
        check.due("7: value after discard", x.run(0, 9, 3), 11);
    }

    private static void runsLeaveTheStackAlone() {
        FixedArguments x = new FixedArguments();
        x.argument(0);
        x.argument(1);
        x.two(4);
        x.define(0);
        x.argument(0);
        x.constant(2);
        x.run(0, 1, 2);
        x.ending(0, 1, 2);
        x.calls(0, 1, 2);
        x.callsOf(0, 1, 2, 3);
        x.sumOver(1, 1, 2, 8);
        x.solve(1, 1, 5);
        check.due("8: depth after runs", x.depth(), 2);
        check.due("8: two after runs", x.two(1), 1);
        check.due("6: define after runs", x.define(0), 3);
        check.due("9: run", x.run(0, 1, 2), -1);
    }

    /** Pushes constants until one is refused; how many were taken. */
    private static int fill(FixedArguments x) {
        int taken = 0;
        while (taken < 100 && x.constant(1) == taken + 1) {
            taken++;
        }
        return taken;
    }

    private static void checkFull(FixedArguments x, int depth) {
        check.due("2: full", x.constant(20), FixedArguments.FULL);
        check.due("3: full", x.argument(0), FixedArguments.FULL);
        check.due("4: full", x.two(0), FixedArguments.FULL);
        check.due("5: full", x.choose(), FixedArguments.FULL);
        check.due("8: depth when full", x.depth(), depth);
    }

    /** (first ? 1 : 0) + 1 + 1 + 1 + 1 + 1, in fourteen terms. */
    private static FixedArguments oneOfFourteen() {
        FixedArguments x = new FixedArguments();
        x.argument(0);
        x.constant(1);
        x.constant(0);
        x.choose();
        for (int i = 0; i < 5; i++) {
            x.constant(1);
            check.due("4: sum " + i, x.two(0), 1);
        }
        return x;
    }
}
