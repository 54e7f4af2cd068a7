/** Promises 9 to 14: runs, how they end, and what is counted. */
public final class RunningTest {
    private static final int MIN = Integer.MIN_VALUE;
    private static final int MAX = Integer.MAX_VALUE;
    private static final int[] NO_FUNCTION = {-1, 4, MIN, MAX};
    private static final Check check = new Check();

    public static void main(String[] args) {
        wrongFunctions();
        arithmeticWraps();
        nestedChooses();
        onlyTheChosenTermIsWorkedOut();
        sixtyCallsAndOneMore();
        tiredAmongBranchingCalls();
        argumentsAreWorkedOutBeforeTheCall();
        callsOfEachFunction();
        callsSeeTheNewestBody();
        longestRun();
        sums();
        solves();
        check.end();
    }

    private static void wrongFunctions() {
        FixedArguments x = new FixedArguments();
        for (int f = 0; f < 4; f++) {
            x.constant(5);
            x.define(f);
        }
        for (int f : NO_FUNCTION) {
            check.due("9: run of " + f, x.run(f, 1, 2), 0);
            check.due("10: ending of " + f, x.ending(f, 1, 2), FixedArguments.BAD_ARG);
            check.due("11: calls of " + f, x.calls(f, 1, 2), FixedArguments.BAD_ARG);
            check.due("12: callsOf, f " + f, x.callsOf(f, 1, 2, 0), FixedArguments.BAD_ARG);
            check.due("12: callsOf, g " + f, x.callsOf(0, 1, 2, f), FixedArguments.BAD_ARG);
            check.due("12: callsOf, both " + f, x.callsOf(f, 1, 2, f), FixedArguments.BAD_ARG);
            check.due("13: sumOver of " + f, x.sumOver(f, 1, 2, 3), 0);
            check.due("14: solve of " + f, x.solve(f, 1, 5), -1);
        }
    }

    private static void arithmeticWraps() {
        FixedArguments x = new FixedArguments();
        for (int op = 0; op < 4; op++) {
            x.argument(0);
            x.argument(1);
            x.two(op);
            x.define(op);
        }
        check.due("9: add wraps", x.run(0, MAX, 1), MIN);
        check.due("9: add wraps", x.run(0, MIN, MIN), 0);
        check.due("9: sub wraps", x.run(1, MIN, 1), MAX);
        check.due("9: sub wraps", x.run(1, 0, MIN), MIN);
        check.due("9: mul wraps", x.run(2, 65536, 65536), 0);
        check.due("9: mul wraps", x.run(2, MAX, MAX), 1);
        check.due("9: mul wraps", x.run(2, MIN, -1), MIN);
        check.due("9: less", x.run(3, 2, 3), 1);
        check.due("9: less of equals", x.run(3, 3, 3), 0);
        check.due("9: less", x.run(3, 3, 2), 0);
        check.due("9: less is no difference", x.run(3, MIN, MAX), 1);
        check.due("9: less is no difference", x.run(3, MAX, MIN), 0);
    }

    /** A choose in each of the three places of another one. */
    private static void nestedChooses() {
        int[] bits = {0, 1};
        for (int place = 0; place < 3; place++) {
            FixedArguments x = new FixedArguments();
            for (int i = 0; i < 3; i++) {
                if (i == place) {
                    x.argument(0);
                    x.constant(place == 0 ? 0 : 11);
                    x.constant(12);
                    x.choose();
                } else if (i == 0) {
                    x.argument(1);
                } else {
                    x.constant(i);
                }
            }
            x.choose();
            x.constant(20);
            x.two(0);
            x.define(0);
            for (int a : bits) {
                for (int b : bits) {
                    int inner = a != 0 ? (place == 0 ? 0 : 11) : 12;
                    int c = place == 0 ? inner : b;
                    int then = place == 1 ? inner : 1;
                    int other = place == 2 ? inner : 2;
                    check.due("9: choose nested at " + place + " with " + a + ", " + b,
                            x.run(0, a, b), (c != 0 ? then : other) + 20);
                }
            }
        }
    }

    private static void onlyTheChosenTermIsWorkedOut() {
        FixedArguments x = new FixedArguments();
        selfCall(x, 3);
        x.argument(0);
        call(x, 1);
        call(x, 3);
        x.choose();
        x.define(0);
        check.due("10: X alone", x.ending(0, 1, 0), FixedArguments.DONE);
        check.due("11: X alone", x.calls(0, 1, 0), 2);
        check.due("10: Y alone", x.ending(0, 0, 0), FixedArguments.TIRED);
        check.due("12: Y alone", x.callsOf(0, 0, 0, 1), 0);
        check.due("12: Y alone", x.callsOf(0, 0, 0, 3), 59);

        // The value of a call as the C and as the X of a choose.
        x.argument(0);
        x.define(1);
        call(x, 1);
        call(x, 1);
        x.constant(-7);
        x.choose();
        x.define(2);
        check.due("9: call as C and X", x.run(2, 6, 0), 6);
        check.due("11: call as C and X", x.calls(2, 6, 0), 3);
        check.due("9: call as C", x.run(2, 0, 0), -7);
        check.due("11: call as C", x.calls(2, 0, 0), 2);
    }

    private static void sixtyCallsAndOneMore() {
        FixedArguments x = countDown();
        check.due("9: sixty calls", x.run(0, 59, 8), 8);
        check.due("10: sixty calls", x.ending(0, 59, 8), FixedArguments.DONE);
        check.due("11: sixty calls", x.calls(0, 59, 8), 60);
        check.due("12: sixty calls", x.callsOf(0, 59, 8, 0), 60);
        check.due("9: one more", x.run(0, 60, 8), 0);
        check.due("10: one more", x.ending(0, 60, 8), FixedArguments.TIRED);
        check.due("11: one more", x.calls(0, 60, 8), 60);
        check.due("12: one more", x.callsOf(0, 60, 8, 0), 60);
        check.due("9: a run after a tired one", x.run(0, 3, 8), 8);
        check.due("11: a run after a tired one", x.calls(0, 3, 8), 4);
    }

    /** Calls count over the whole run, not by how deep they stand. */
    private static void tiredAmongBranchingCalls() {
        FixedArguments x = new FixedArguments();
        // f0 = first ? f0(first - 1, second) + f0(first - 1, second) : 1, in 2^(first + 1) - 1 calls.
        x.argument(0);
        for (int i = 0; i < 2; i++) {
            x.argument(0);
            x.constant(1);
            x.two(1);
            x.argument(1);
            x.two(4);
        }
        x.two(0);
        x.constant(1);
        x.choose();
        check.due("6: terms of doubling", x.define(0), 14);
        check.due("9: 31 calls", x.run(0, 4, 0), 16);
        check.due("11: 31 calls", x.calls(0, 4, 0), 31);
        check.due("9: 63 calls would be", x.run(0, 5, 0), 0);
        check.due("10: 63 calls would be", x.ending(0, 5, 0), FixedArguments.TIRED);
        check.due("11: 63 calls would be", x.calls(0, 5, 0), 60);
    }

    private static void argumentsAreWorkedOutBeforeTheCall() {
        FixedArguments x = countDown();
        // f1 = f2(f0(first, second), 3): f2 does not look at its arguments, they are worked out all the same.
        call(x, 0);
        x.constant(3);
        x.two(6);
        x.define(1);
        check.due("11: an argument unused", x.calls(1, 10, 0), 13);
        check.due("12: an argument unused", x.callsOf(1, 10, 0, 0), 11);
        // 1 + 58 calls, and f2 the 60th.
        check.due("10: the last call is the outer one", x.ending(1, 57, 0), FixedArguments.DONE);
        check.due("12: the last call is the outer one", x.callsOf(1, 57, 0, 2), 1);
        check.due("10: the outer one is too many", x.ending(1, 58, 0), FixedArguments.TIRED);
        check.due("11: the outer one is too many", x.calls(1, 58, 0), 60);
        check.due("12: the outer one is too many", x.callsOf(1, 58, 0, 2), 0);

        // f3 = f3(f0(first, second), f0(second, first)) tires in X or in Y before it calls itself.
        call(x, 0);
        x.argument(1);
        x.argument(0);
        x.two(4);
        x.two(7);
        x.define(3);
        check.due("10: tired in X", x.ending(3, -1, 0), FixedArguments.TIRED);
        check.due("12: tired in X", x.callsOf(3, -1, 0, 0), 59);
        check.due("12: tired in Y", x.callsOf(3, 0, -1, 3), 1);
    }

    private static void callsOfEachFunction() {
        FixedArguments x = new FixedArguments();
        // f0 calls f1, f1 calls f2 twice, f2 calls f3 twice.
        for (int f = 0; f < 3; f++) {
            call(x, f + 1);
            if (f > 0) {
                call(x, f + 1);
                x.two(0);
            }
            x.define(f);
        }
        int[] want = {1, 1, 2, 4};
        for (int g = 0; g < 4; g++) {
            check.due("12: calls of " + g, x.callsOf(0, 0, 0, g), want[g]);
        }
        check.due("11: calls in all", x.calls(0, 0, 0), 8);
        check.due("12: none of its own", x.callsOf(3, 0, 0, 0), 0);
    }

    private static void callsSeeTheNewestBody() {
        FixedArguments x = new FixedArguments();
        call(x, 1);
        x.define(0);
        check.due("9: before", x.run(0, 4, 5), 0);
        x.argument(1);
        x.define(1);
        check.due("9: after", x.run(0, 4, 5), 5);
        x.argument(0);
        x.define(1);
        check.due("9: after once more", x.run(0, 4, 5), 4);
    }

    /** Sixty calls, each with a body about as long as bodies get. */
    private static void longestRun() {
        FixedArguments x = new FixedArguments();
        // f0 = 1 + (1 + (1 + (1 + (1 + f0(first, second))))): five values wait in each call.
        for (int i = 0; i < 5; i++) {
            x.constant(1);
        }
        call(x, 0);
        for (int i = 0; i < 5; i++) {
            x.two(0);
        }
        check.due("6: terms of the longest", x.define(0), 13);
        check.due("10: the longest", x.ending(0, 1, 1), FixedArguments.TIRED);
        check.due("11: the longest", x.calls(0, 1, 1), 60);

        // f1 = (first ? f1(first - 1, second) : second) + 1 + 1 + 1: it counts on the way back.
        x.argument(0);
        x.argument(0);
        x.constant(1);
        x.two(1);
        x.argument(1);
        x.two(5);
        x.argument(1);
        x.choose();
        for (int i = 0; i < 3; i++) {
            x.constant(1);
            x.two(0);
        }
        check.due("6: fourteen terms", x.define(1), 14);
        check.due("9: on the way back", x.run(1, 59, 7), 7 + 60 * 3);
        check.due("10: on the way back", x.ending(1, 60, 7), FixedArguments.TIRED);
    }

    private static void sums() {
        FixedArguments x = new FixedArguments();
        x.argument(0);
        x.constant(10);
        x.two(2);
        x.argument(1);
        x.two(0);
        x.define(0);
        check.due("13: n is -1", x.sumOver(0, 1, 2, -1), 0);
        check.due("13: n is the least int", x.sumOver(0, 1, 2, MIN), 0);
        check.due("13: n is 0", x.sumOver(0, 1, 2, 0), 0);
        check.due("13: n is 1", x.sumOver(0, 1, 2, 1), 12);
        check.due("13: n is 3", x.sumOver(0, 1, 2, 3), 12 + 13 + 14);
        check.due("13: n is 8", x.sumOver(0, 1, 2, 8), 8 * 12 + 28);
        check.due("13: n is 9", x.sumOver(0, 1, 2, 9), 0);
        check.due("13: n is the greatest int", x.sumOver(0, 1, 2, MAX), 0);
        check.due("13: the sum wraps", x.sumOver(0, 0, MAX - 1, 2), -3);
        check.due("13: b wraps", x.sumOver(0, 0, MAX, 2), -1);

        // f1 tires where second is 0, and is 5 elsewhere.
        selfCall(x, 3);
        x.argument(1);
        x.constant(5);
        call(x, 3);
        x.choose();
        x.define(1);
        check.due("13: a tired one counts as 0", x.sumOver(1, 0, -1, 3), 10);
        check.due("13: the last one is tired", x.sumOver(1, 0, -2, 3), 10);
        check.due("13: the first one is tired", x.sumOver(1, 0, 0, 3), 10);
    }

    private static void solves() {
        FixedArguments x = new FixedArguments();
        x.argument(0);
        x.argument(1);
        x.two(0);
        x.define(0);
        check.due("14: i is 0", x.solve(0, 100, 100), 0);
        check.due("14: i is 1", x.solve(0, 100, 101), 1);
        check.due("14: i is 15", x.solve(0, 100, 115), 15);
        check.due("14: i would be 16", x.solve(0, 100, 116), -1);
        check.due("14: i would be -1", x.solve(0, 100, 99), -1);
        check.due("14: the sum wraps", x.solve(0, MAX, MIN), 1);

        x.constant(6);
        x.argument(1);
        x.two(3);
        x.define(1);
        check.due("14: the least of many", x.solve(1, 0, 1), 7);
        check.due("14: the least of many", x.solve(1, 0, 0), 0);

        // f2 tires below 4 and is 0 from there on: only a done run has the value 0.
        selfCall(x, 3);
        x.argument(1);
        x.constant(4);
        x.two(3);
        call(x, 3);
        x.constant(0);
        x.choose();
        x.define(2);
        check.due("14: tired ones are not done", x.solve(2, 0, 0), 4);
        check.due("14: all are tired", x.solve(3, 0, 0), -1);
    }

    /** Pushes call g of first and second. */
    private static void call(FixedArguments x, int g) {
        x.argument(0);
        x.argument(1);
        x.two(4 + g);
    }

    private static void selfCall(FixedArguments x, int f) {
        call(x, f);
        x.define(f);
    }

    /** f0(a, b) = a ? f0(a - 1, b) : b, which makes a + 1 calls. */
    private static FixedArguments countDown() {
        FixedArguments x = new FixedArguments();
        x.argument(0);
        x.argument(0);
        x.constant(1);
        x.two(1);
        x.argument(1);
        x.two(4);
        x.argument(1);
        x.choose();
        x.define(0);
        return x;
    }
}
