/**
 * The sentences of the document that name a boundary case and have no test of
 * their own elsewhere: one method for each, under the sentence it holds.
 */
public final class BoundaryTest {
    private static final int MIN = Integer.MIN_VALUE;
    private static final int MAX = Integer.MAX_VALUE;
    private static final int[] EDGES = {
        MIN, MIN + 1, -61, -21, -20, -4, -3, -2, -1, 0, 1, 2, 3, 4, 5, 7, 8, 9,
        14, 15, 16, 20, 21, 59, 60, 61, MAX - 1, MAX
    };
    private static final Check check = new Check();

    public static void main(String[] args) {
        functionsAreFour();
        valuesWrapOnTheirWayThroughACall();
        xIsWorkedOutBeforeY();
        cIsWorkedOutFirst();
        aChosenZeroIsAValue();
        sixtyCallsOfAnyFunctions();
        sixtyCallsThatAreLeftSoon();
        mostValuesThatWait();
        argumentsOfTheCallThatTires();
        aTiredRunEndsAtOnce();
        aRunStartsAfresh();
        noCallThrows();
        theLastCallThatIsPromised();
        objectsShareNothing();
        bodiesOfANewObject();
        argumentsUntilFull();
        madeSinceLastEmptied();
        answersOnTheWayToFull();
        choosesOfTheHighestStack();
        defineNeedsExactlyOne();
        defineAnswersTheTermsMade();
        defineEmptiesAFullStack();
        discardEmptiesAnyStack();
        depthFromNoneToFourteen();
        everyNumberOfCalls();
        callsOfAddUp();
        everyLengthOfASum();
        sumOfWrongFunctionAndLength();
        everySolution();
        solveTakesAnyNumber();
        check.end();
    }

    // Terms: "FUNCTIONS are 0 to 3; each has a BODY".
    private static void functionsAreFour() {
        FixedArguments x = new FixedArguments();
        for (int f = 0; f < 4; f++) {
            x.constant(11 + f);
            check.due("Terms: define(" + f + ")", x.define(f), 1);
        }
        for (int f = 0; f < 4; f++) {
            check.due("Terms: the body of " + f, x.run(f, 0, 0), 11 + f);
        }
    }

    // Terms: "all numbers are Java ints, and arithmetic wraps".
    private static void valuesWrapOnTheirWayThroughACall() {
        FixedArguments x = new FixedArguments();
        x.argument(0);
        x.argument(1);
        x.two(3);
        x.define(1);
        // f0 = f1(first + 1, second - 1): both of them wrap before they are compared.
        x.argument(0);
        x.constant(1);
        x.two(0);
        x.argument(1);
        x.constant(1);
        x.two(1);
        x.two(5);
        x.define(0);
        check.due("Terms: MAX + 1 is less than MIN - 1", x.run(0, MAX, MIN), 1);
        check.due("Terms: MAX is not less than MIN", x.run(0, MAX - 1, MIN + 1), 0);
        // f2 = first * first * first, where the wrap is neither at the first nor the last step only.
        x.argument(0);
        x.argument(0);
        x.two(2);
        x.argument(0);
        x.two(2);
        x.define(2);
        check.due("Terms: a cube wraps", x.run(2, 100003, 0), 100003 * 100003 * 100003);
    }

    // Terms: "add, sub, mul, less: X, then Y is worked out"; "call g: X, then Y is worked out".
    private static void xIsWorkedOutBeforeY() {
        for (int op = 0; op < 8; op++) {
            FixedArguments x = new FixedArguments();
            defineEndless(x, 3);
            call(x, 3);
            call(x, 1);
            x.two(op);
            x.define(0);
            check.due("Terms: op " + op + ", Y after a tired X", x.callsOf(0, 1, 2, 1), 0);
            check.due("Terms: op " + op + ", tired in X", x.callsOf(0, 1, 2, 3), 59);

            call(x, 1);
            call(x, 3);
            x.two(op);
            x.define(0);
            check.due("Terms: op " + op + ", X before a tired Y", x.callsOf(0, 1, 2, 1), 1);
            check.due("Terms: op " + op + ", tired in Y", x.callsOf(0, 1, 2, 3), 58);
        }
    }

    // Terms: "choose: C is worked out; if it is not 0, X is, else Y is".
    private static void cIsWorkedOutFirst() {
        FixedArguments x = new FixedArguments();
        defineEndless(x, 3);
        call(x, 3);
        call(x, 1);
        call(x, 2);
        x.choose();
        x.define(0);
        check.due("Terms: C tires", x.ending(0, 1, 1), FixedArguments.TIRED);
        check.due("Terms: no X after a tired C", x.callsOf(0, 1, 1, 1), 0);
        check.due("Terms: no Y after a tired C", x.callsOf(0, 1, 1, 2), 0);

        // f0 = f3(first, second) ? f1(first, second) : f2(first, second), with f3 = first.
        x.argument(0);
        x.define(3);
        int[] notZero = {1, -1, 2, MIN, MAX};
        for (int c : notZero) {
            check.due("Terms: X where C is " + c, x.callsOf(0, c, 0, 1), 1);
            check.due("Terms: no Y where C is " + c, x.callsOf(0, c, 0, 2), 0);
        }
        check.due("Terms: no X where C is 0", x.callsOf(0, 0, 1, 1), 0);
        check.due("Terms: Y where C is 0", x.callsOf(0, 0, 1, 2), 1);
        check.due("Terms: C is worked out once", x.callsOf(0, 0, 1, 3), 1);
    }

    // Terms: "if it is not 0, X is, else Y is, and is the value".
    private static void aChosenZeroIsAValue() {
        FixedArguments x = new FixedArguments();
        x.argument(0);
        x.constant(0);
        x.constant(9);
        x.choose();
        x.define(0);
        check.due("Terms: an X of 0 is the value", x.run(0, 1, 0), 0);
        x.argument(0);
        x.constant(9);
        x.constant(0);
        x.choose();
        x.define(0);
        check.due("Terms: a Y of 0 is the value", x.run(0, 0, 0), 0);
    }

    // Terms: "if 60 calls were made already in the run, the run is TIRED".
    private static void sixtyCallsOfAnyFunctions() {
        FixedArguments x = new FixedArguments();
        // f = first ? the next function (first - 1, second) : second, round and round.
        for (int f = 0; f < 4; f++) {
            x.argument(0);
            x.argument(0);
            x.constant(1);
            x.two(1);
            x.argument(1);
            x.two(4 + (f + 1) % 4);
            x.argument(1);
            x.choose();
            x.define(f);
        }
        for (int f = 0; f < 4; f++) {
            check.due("Terms: 60 calls from " + f, x.ending(f, 59, 5), FixedArguments.DONE);
            check.due("Terms: 61 calls from " + f, x.ending(f, 60, 5), FixedArguments.TIRED);
            check.due("Terms: value of 60 calls from " + f, x.run(f, 59, 5), 5);
            for (int g = 0; g < 4; g++) {
                check.due("Terms: 60 calls from " + f + " of " + g, x.callsOf(f, 59, 5, g), 15);
            }
        }
    }

    // Terms: "if 60 calls were made already in the run": made, not open.
    private static void sixtyCallsThatAreLeftSoon() {
        FixedArguments x = new FixedArguments();
        pushCalls(x, 1, 6);
        x.define(2);
        pushCalls(x, 2, 4);
        x.define(3);
        // f1 makes 1 call, f2 makes 7 and f3 makes 29, so two of f3 and one of f1 fill the run.
        pushCalls(x, 3, 2);
        x.constant(0);
        x.two(5);
        x.define(0);
        check.due("Terms: 60 calls, four deep", x.ending(0, 0, 0), FixedArguments.DONE);
        check.due("Terms: 60 calls, four deep", x.calls(0, 0, 0), 60);
        int[] want = {1, 49, 8, 2};
        for (int g = 0; g < 4; g++) {
            check.due("Terms: 60 calls, those of " + g, x.callsOf(0, 0, 0, g), want[g]);
        }
        pushCalls(x, 3, 2);
        x.constant(0);
        x.two(5);
        x.constant(0);
        x.two(5);
        x.define(0);
        check.due("Terms: 61 calls, four deep", x.ending(0, 0, 0), FixedArguments.TIRED);
        check.due("Terms: 61 calls, four deep", x.calls(0, 0, 0), 60);
        check.due("Terms: 61 calls, those of 1", x.callsOf(0, 0, 0, 1), 49);
    }

    // Terms: "if 60 calls were made already", each call inside the one before, and in each
    // as many values waiting for it as fourteen terms allow.
    private static void mostValuesThatWait() {
        FixedArguments x = new FixedArguments();
        // f0, f1, f2 = 1 + (2 + (3 + (4 + (5 + next(first, second))))).
        for (int f = 0; f < 3; f++) {
            pushOneTo(x, 5);
            call(x, f + 1);
            for (int i = 0; i < 5; i++) {
                x.two(0);
            }
            x.define(f);
        }
        // f3 = first ? 1 + (2 + (3 + f0(first - 1, second))) : second.
        x.argument(0);
        pushOneTo(x, 3);
        x.argument(0);
        x.constant(1);
        x.two(1);
        x.argument(1);
        x.two(4);
        for (int i = 0; i < 3; i++) {
            x.two(0);
        }
        x.argument(1);
        x.choose();
        check.due("Terms: f3 takes all fourteen terms", x.define(3), 14);
        check.due("Terms: the calls where most values wait", x.calls(0, 14, 1000), 60);
        check.due("Terms: most values wait", x.run(0, 14, 1000), 15 * 3 * 15 + 14 * 6 + 1000);
        check.due("Terms: more would wait", x.ending(0, 15, 1000), FixedArguments.TIRED);
        check.due("Terms: fewer wait after a tired run", x.run(0, 1, 7), 2 * 3 * 15 + 6 + 7);
    }

    // Terms: "X, then Y is worked out; then, if 60 calls were made already in the run".
    private static void argumentsOfTheCallThatTires() {
        FixedArguments x = countDown();
        // f1 = f2(7, f0(first, second)): 1 + (first + 1) calls before the call of f2.
        x.constant(7);
        call(x, 0);
        x.two(6);
        x.define(1);
        x.argument(0);
        x.argument(1);
        x.two(0);
        x.define(2);
        check.due("Terms: f2 is the 60th", x.run(1, 57, 5), 12);
        check.due("Terms: f2 would be the 61st", x.ending(1, 58, 5), FixedArguments.TIRED);
        check.due("Terms: its arguments came first", x.callsOf(1, 58, 5, 0), 59);
        check.due("Terms: it is not called", x.callsOf(1, 58, 5, 2), 0);
        check.due("Terms: the 61st is in its arguments", x.callsOf(1, 59, 5, 0), 59);
    }

    // Terms: "it ends with its value, or at once when it is tired".
    private static void aTiredRunEndsAtOnce() {
        FixedArguments x = new FixedArguments();
        defineEndless(x, 3);
        // f0 = f1(..) + f3(..) + f2(..): f2 comes after the tired one.
        call(x, 1);
        call(x, 3);
        x.two(0);
        call(x, 2);
        x.two(0);
        x.define(0);
        check.due("Terms: before it", x.callsOf(0, 0, 0, 1), 1);
        check.due("Terms: after it", x.callsOf(0, 0, 0, 2), 0);
        check.due("Terms: in all", x.calls(0, 0, 0), 60);
        check.due("9: what was summed up before is lost", x.run(0, 0, 0), 0);

        // f0 = 9 + f3(..), and f3 = 9 + f3(..): a tired run has no part of a value.
        for (int f = 3; f >= 0; f -= 3) {
            x.constant(9);
            call(x, 3);
            x.two(0);
            x.define(f);
        }
        check.due("9: tired, with nines on the way", x.run(0, 0, 0), 0);
        check.due("9: tired, with nines on the way", x.run(3, 0, 0), 0);
    }

    // Terms: "if 60 calls were made already in the run": each run counts for itself.
    private static void aRunStartsAfresh() {
        FixedArguments x = countDown();
        defineEndless(x, 3);
        for (int i = 0; i < 3; i++) {
            check.due("Terms: done", x.ending(0, 59, 1), FixedArguments.DONE);
            check.due("Terms: tired", x.ending(3, 0, 0), FixedArguments.TIRED);
            check.due("9: done after tired", x.run(0, 59, 1), 1);
            check.due("11: calls after tired", x.calls(1, 0, 0), 1);
            check.due("12: callsOf after tired", x.callsOf(1, 0, 0, 3), 0);
        }
        check.due("13: eight runs of 60 calls", x.sumOver(0, 59, 1, 8), 36);
        check.due("14: sixteen runs of 60 calls", x.solve(0, 59, 15), 15);
    }

    // Terms: "No call ever throws."
    private static void noCallThrows() {
        for (int terms = 0; terms <= 15; terms++) {
            for (int p : EDGES) {
                FixedArguments x = withEndlessBodies();
                for (int i = 0; i < terms; i++) {
                    x.argument(i % 2);
                }
                callEverything(x, p);
            }
        }
    }

    private static void callEverything(FixedArguments x, int p) {
        String last = "new";
        try {
            for (int q : new int[] {MIN, -1, 0, 3, 4, MAX}) {
                last = "a run with " + p + " and " + q;
                x.run(p, q, p);
                x.ending(p, p, q);
                x.calls(q, p, p);
                x.callsOf(p, q, q, q);
                x.callsOf(q, q, q, p);
                x.sumOver(p, p, q, q);
                x.sumOver(q, q, p, p);
                x.solve(p, q, q);
                x.solve(q, p, p);
            }
            last = "the building with " + p;
            x.define(p);
            x.two(p);
            x.choose();
            x.constant(p);
            x.argument(p);
            x.define(p);
            x.depth();
            x.discard();
            x.two(p);
            x.choose();
            x.define(p);
        } catch (RuntimeException | Error thrown) {
            check.threw("Terms: " + last, thrown);
        }
    }

    // What it is: "An object is used for at most 512 calls after it has been made".
    private static void theLastCallThatIsPromised() {
        FixedArguments x = new FixedArguments();
        int calls = 0;
        int rounds = 0;
        while (calls + 4 <= 508) {
            x.argument(0);
            x.constant(rounds % 20);
            x.two(0);
            x.define(rounds % 4);
            calls += 4;
            rounds++;
        }
        check.due("What it is: call 509", x.run(0, 100, 0), 100 + 124 % 20);
        check.due("What it is: call 510", x.run(1, 100, 0), 100 + 125 % 20);
        check.due("What it is: call 511", x.run(2, 100, 0), 100 + 126 % 20);
        check.due("What it is: call 512", x.run(3, 100, 0), 100 + 123 % 20);
    }

    // Promise 1: "All bodies are constant 0; the stack is empty.", whatever other objects hold.
    private static void objectsShareNothing() {
        FixedArguments x = new FixedArguments();
        x.constant(5);
        x.define(2);
        x.constant(6);
        FixedArguments y = new FixedArguments();
        check.due("1: the stack of a second object", y.depth(), 0);
        check.due("1: a body of a second object", y.run(2, 1, 1), 0);
        y.constant(7);
        y.constant(8);
        y.two(0);
        y.define(2);
        y.discard();
        check.due("1: the stack of the first object", x.depth(), 1);
        check.due("1: a body of the first object", x.run(2, 1, 1), 5);
    }

    // Promise 1: "All bodies are constant 0; the stack is empty."
    private static void bodiesOfANewObject() {
        FixedArguments x = new FixedArguments();
        check.due("1: two on an empty stack", x.two(0), FixedArguments.TOO_FEW);
        check.due("1: choose on an empty stack", x.choose(), FixedArguments.TOO_FEW);
        check.due("1: define on an empty stack", x.define(0), FixedArguments.TOO_FEW);
        for (int f = 0; f < 4; f++) {
            for (int p : EDGES) {
                check.due("1: new " + f + " of " + p, x.run(f, p, p), 0);
            }
            check.due("1: sumOver of new " + f, x.sumOver(f, 1, 1, 8), 0);
            check.due("1: solve of new " + f, x.solve(f, 1, 0), 0);
            check.due("1: solve of new " + f, x.solve(f, 1, 1), -1);
        }
    }

    // Promise 3: "FULL as for constant. Otherwise the number on the stack."
    private static void argumentsUntilFull() {
        for (int which = 0; which < 2; which++) {
            FixedArguments x = new FixedArguments();
            for (int i = 1; i <= 14; i++) {
                check.due("3: argument(" + which + "), the " + i + "th", x.argument(which), i);
            }
            check.due("3: argument(" + which + "), the 15th", x.argument(which), FixedArguments.FULL);
            check.due("3: wrong before full", x.argument(which == 0 ? -1 : 2), FixedArguments.BAD_ARG);
        }
    }

    // Promise 2: "14 terms were made since the stack was last emptied answers FULL".
    private static void madeSinceLastEmptied() {
        for (int before = 1; before <= 14; before++) {
            FixedArguments x = new FixedArguments();
            pushConstants(x, before);
            x.discard();
            pushConstants(x, 13);
            check.due("2: the 14th after " + before + " and discard", x.constant(1), 14);
            check.due("2: the 15th after " + before + " and discard", x.constant(1), FixedArguments.FULL);
        }
        int[] sizes = {1, 3, 5, 7, 9, 11, 13};
        for (int size : sizes) {
            FixedArguments x = new FixedArguments();
            pushSum(x, size);
            x.define(0);
            pushConstants(x, 13);
            check.due("2: the 14th after define of " + size, x.constant(1), 14);
            check.due("2: the 15th after define of " + size, x.constant(1), FixedArguments.FULL);
        }
        // A stack of one is not an emptied stack, nor is one that a refused define left.
        FixedArguments x = new FixedArguments();
        pushSum(x, 13);
        x.define(4);
        check.due("2: the 14th after a refused define", x.constant(1), 2);
        x.define(0);
        check.due("2: the 15th after a refused define", x.constant(1), FixedArguments.FULL);
    }

    // Promises 2 to 5: "Otherwise the number on the stack."
    private static void answersOnTheWayToFull() {
        FixedArguments x = new FixedArguments();
        check.due("2: constant on none", x.constant(-20), 1);
        check.due("3: argument on one", x.argument(0), 2);
        check.due("3: argument on two", x.argument(1), 3);
        check.due("2: constant on three", x.constant(20), 4);
        check.due("5: choose of four", x.choose(), 2);
        check.due("4: two of two", x.two(3), 1);
        for (int i = 0; i < 4; i++) {
            check.due("2: constant on one", x.constant(i), 2);
            check.due("4: two of two", x.two(2), 1);
        }
        check.due("8: one of fourteen", x.depth(), 1);
        check.due("2: constant when full", x.constant(0), FixedArguments.FULL);
        check.due("3: argument when full", x.argument(1), FixedArguments.FULL);
        check.due("4: two when full", x.two(7), FixedArguments.FULL);
        check.due("5: choose when full", x.choose(), FixedArguments.FULL);
        check.due("6: define when full", x.define(3), 14);
    }

    // Promise 5: "Takes C, X and Y off (Y the top)", from the highest stack that can become one term.
    private static void choosesOfTheHighestStack() {
        FixedArguments x = new FixedArguments();
        // f0 = first ? 1 : second ? 2 : first ? 3 : second ? 4 : 5, where the third C is 0 if it is reached.
        for (int i = 0; i < 4; i++) {
            x.argument(i % 2);
            x.constant(i + 1);
        }
        check.due("5: the highest stack", x.constant(5), 9);
        for (int i = 1; i <= 4; i++) {
            check.due("5: choose " + i + " of the highest stack", x.choose(), 9 - 2 * i);
        }
        check.due("6: the terms of four chooses", x.define(0), 13);
        check.due("5: the outermost X", x.run(0, 1, 1), 1);
        check.due("5: the second X", x.run(0, 0, 1), 2);
        check.due("5: the innermost Y", x.run(0, 0, 0), 5);

        // f1 = 0 ? 11 : 0 ? 12 : 0 ? 13 : first ? 14 : second.
        for (int i = 0; i < 4; i++) {
            if (i < 3) {
                x.constant(0);
            } else {
                x.argument(0);
            }
            x.constant(11 + i);
        }
        x.argument(1);
        for (int i = 0; i < 4; i++) {
            x.choose();
        }
        x.define(1);
        check.due("5: the innermost X", x.run(1, 1, 77), 14);
        check.due("5: the innermost Y where C is 0", x.run(1, 0, 77), 77);
    }

    // Promise 6: "TOO_FEW if there is not exactly one."
    private static void defineNeedsExactlyOne() {
        for (int terms = 0; terms <= 14; terms++) {
            FixedArguments x = new FixedArguments();
            pushConstants(x, terms);
            int want = terms == 1 ? 1 : FixedArguments.TOO_FEW;
            for (int f = 3; f >= 0; f--) {
                check.due("6: define(" + f + ") of " + terms, x.define(f), terms == 1 && f < 3
                        ? FixedArguments.TOO_FEW : want);
            }
            check.due("6: depth after define of " + terms, x.depth(), terms == 1 ? 0 : terms);
            check.due("6: body after define of " + terms, x.run(3, 0, 0), terms == 1 ? 1 : 0);
        }
    }

    // Promise 6: "Otherwise how many terms were made for it."
    private static void defineAnswersTheTermsMade() {
        for (int size = 1; size <= 14; size++) {
            if (size == 2) {
                continue;
            }
            FixedArguments x = new FixedArguments();
            // What was made and discarded, or made for another function, does not count.
            pushConstants(x, 3);
            x.discard();
            pushSum(x, 5);
            x.define(1);
            if (size % 2 == 1) {
                pushSum(x, size);
            } else {
                pushSum(x, size - 3);
                x.constant(20);
                x.constant(-20);
                x.choose();
            }
            check.due("6: define of " + size + " terms", x.define(0), size);
            check.due("6: value of " + size + " terms", x.run(0, 0, 0),
                    size % 2 == 1 ? (size + 1) / 2 : 20);
        }
    }

    // Promise 6: "the stack is empty afterwards, and no term counts as made".
    private static void defineEmptiesAFullStack() {
        FixedArguments x = new FixedArguments();
        for (int f = 0; f < 4; f++) {
            pushSum(x, 11);
            x.constant(3);
            x.constant(4);
            x.choose();
            check.due("6: define(" + f + ") of fourteen", x.define(f), 14);
            check.due("6: depth after it", x.depth(), 0);
            check.due("6: two after it", x.two(0), FixedArguments.TOO_FEW);
            check.due("6: choose after it", x.choose(), FixedArguments.TOO_FEW);
            check.due("6: define after it", x.define(f), FixedArguments.TOO_FEW);
            check.due("6: the body stays", x.run(f, 0, 0), 3);
        }
        pushConstants(x, 13);
        check.due("6: the 14th afterwards", x.argument(1), 14);
    }

    // Promise 7: "Empties the stack; no term counts as made."
    private static void discardEmptiesAnyStack() {
        for (int terms = 0; terms <= 14; terms++) {
            FixedArguments x = new FixedArguments();
            pushConstants(x, terms);
            x.discard();
            x.discard();
            check.due("7: depth after discard of " + terms, x.depth(), 0);
            check.due("7: two after discard of " + terms, x.two(0), FixedArguments.TOO_FEW);
            check.due("7: define after discard of " + terms, x.define(0), FixedArguments.TOO_FEW);
            check.due("7: constant after discard of " + terms, x.constant(9), 1);
            check.due("7: terms made after discard of " + terms, x.define(0), 1);
        }
        // Fourteen made, one left: what counts is what was made, not what is there.
        FixedArguments y = new FixedArguments();
        pushSum(y, 13);
        y.constant(1);
        y.discard();
        check.due("7: constant after fourteen made", y.constant(1), 1);
    }

    // Promise 8: "The number on the stack."
    private static void depthFromNoneToFourteen() {
        FixedArguments x = new FixedArguments();
        for (int terms = 1; terms <= 14; terms++) {
            x.constant(terms);
            check.due("8: depth of " + terms, x.depth(), terms);
        }
        x.constant(15);
        check.due("8: depth after FULL", x.depth(), 14);
        check.due("8: depth asked twice", x.depth(), 14);
        FixedArguments y = new FixedArguments();
        pushConstants(y, 7);
        y.two(0);
        check.due("8: two takes one away", y.depth(), 6);
        y.choose();
        check.due("8: choose takes two away", y.depth(), 4);
    }

    // Promise 11: "How many calls it makes (the first one counts)".
    private static void everyNumberOfCalls() {
        FixedArguments x = countDown();
        for (int a = 0; a <= 62; a++) {
            boolean done = a < 60;
            check.due("11: calls with " + a, x.calls(0, a, 4), done ? a + 1 : 60);
            check.due("10: ending with " + a, x.ending(0, a, 4),
                    done ? FixedArguments.DONE : FixedArguments.TIRED);
            check.due("9: run with " + a, x.run(0, a, 4), done ? 4 : 0);
            check.due("12: callsOf with " + a, x.callsOf(0, a, 4, 0), done ? a + 1 : 60);
        }
    }

    // Promise 12: "How many of its calls are calls of function g".
    private static void callsOfAddUp() {
        FixedArguments x = new FixedArguments();
        // f0 calls f1, f1 calls f2, f2 calls f1 and f3, f3 calls nothing: it is tired.
        call(x, 1);
        x.define(0);
        call(x, 2);
        x.define(1);
        call(x, 3);
        call(x, 1);
        x.two(0);
        x.define(2);
        int[] want = {1, 20, 20, 19};
        for (int g = 0; g < 4; g++) {
            check.due("12: calls of " + g + " in a tired run", x.callsOf(0, 0, 0, g), want[g]);
        }
        check.due("12: the first call counts for its function", x.callsOf(3, 0, 0, 3), 1);
        check.due("12: and for no other", x.callsOf(3, 0, 0, 2), 0);
    }

    // Promise 13: "n of them", "0 if ... n not 0 to 8".
    private static void everyLengthOfASum() {
        FixedArguments x = new FixedArguments();
        x.argument(0);
        x.argument(1);
        x.two(2);
        x.define(0);
        for (int n = -2; n <= 10; n++) {
            int want = 0;
            for (int i = 0; n <= 8 && i < n; i++) {
                want += 3 * (5 + i);
            }
            check.due("13: n is " + n, x.sumOver(0, 3, 5, n), want);
        }
        int want = 0;
        for (int i = 0; i < 8; i++) {
            want += MAX * (MAX - 3 + i);
        }
        check.due("13: values, b and the sum wrap", x.sumOver(0, MAX, MAX - 3, 8), want);
        x.argument(0);
        x.define(1);
        check.due("13: the sum of the greatest wraps", x.sumOver(1, MAX, 0, 8), -8);
        check.due("13: the sum of the least wraps", x.sumOver(1, MIN, 0, 7), MIN);
        defineEndless(x, 2);
        check.due("13: all are tired", x.sumOver(2, 1, 1, 8), 0);
    }

    // Promise 13: "0 if f is not 0 to 3 or n not 0 to 8".
    private static void sumOfWrongFunctionAndLength() {
        for (int f : EDGES) {
            FixedArguments x = new FixedArguments();
            for (int g = 0; g < 4; g++) {
                x.constant(3);
                x.define(g);
            }
            for (int n : EDGES) {
                boolean good = f >= 0 && f <= 3 && n >= 0 && n <= 8;
                check.due("13: f is " + f + ", n is " + n, x.sumOver(f, 1, 2, n), good ? 3 * n : 0);
            }
        }
    }

    // Promise 14: "The least i from 0 to 15", "-1 if there is none".
    private static void everySolution() {
        FixedArguments x = new FixedArguments();
        x.argument(1);
        x.define(0);
        for (int v = -2; v <= 18; v++) {
            check.due("14: v is " + v, x.solve(0, 9, v), v >= 0 && v <= 15 ? v : -1);
        }
        // f1 = (second - first) * (second - first): two solutions, the least counts.
        for (int i = 0; i < 2; i++) {
            x.argument(1);
            x.argument(0);
            x.two(1);
        }
        x.two(2);
        x.define(1);
        check.due("14: 5 and 11", x.solve(1, 8, 9), 5);
        check.due("14: -1 and 15", x.solve(1, 7, 64), 15);
        check.due("14: 0 and 16", x.solve(1, 8, 64), 0);
        check.due("14: -1 and 17", x.solve(1, 8, 81), -1);
    }

    // Promise 14: "the run of f with a and i is done with the value v".
    private static void solveTakesAnyNumber() {
        FixedArguments x = new FixedArguments();
        x.argument(0);
        x.argument(1);
        x.two(1);
        x.define(0);
        check.due("14: the least a and v", x.solve(0, MIN, MIN), 0);
        check.due("14: a wraps to v", x.solve(0, MIN, MAX), 1);
        check.due("14: a wraps to the last i", x.solve(0, MIN, MAX - 14), 15);
        check.due("14: a wraps beyond the last i", x.solve(0, MIN, MAX - 15), -1);
        check.due("14: a value of -1", x.solve(0, 2, -1), 3);
        // f1 counts down from second * 5: i up to 11 is done, 12 and more are tired.
        x.argument(0);
        x.argument(0);
        x.constant(1);
        x.two(1);
        x.argument(1);
        x.two(6);
        x.argument(1);
        x.choose();
        x.define(2);
        x.argument(1);
        x.constant(5);
        x.two(2);
        x.argument(1);
        x.two(6);
        x.define(1);
        check.due("14: the last that is done", x.solve(1, 0, 11), 11);
        check.due("14: the first that is tired", x.solve(1, 0, 12), -1);
        check.due("10: the last that is done", x.ending(1, 0, 11), FixedArguments.DONE);
        check.due("10: the first that is tired", x.ending(1, 0, 12), FixedArguments.TIRED);
    }

    /** Pushes call g of first and second. */
    private static void call(FixedArguments x, int g) {
        x.argument(0);
        x.argument(1);
        x.two(4 + g);
    }

    private static void defineEndless(FixedArguments x, int f) {
        call(x, f);
        x.define(f);
    }

    /** Pushes g(... g(g(0, 0), 0) ..., 0), which calls g that many times. */
    private static void pushCalls(FixedArguments x, int g, int times) {
        x.constant(0);
        for (int i = 0; i < times; i++) {
            x.constant(0);
            x.two(4 + g);
        }
    }

    private static void pushOneTo(FixedArguments x, int last) {
        for (int c = 1; c <= last; c++) {
            x.constant(c);
        }
    }

    private static void pushConstants(FixedArguments x, int terms) {
        for (int i = 0; i < terms; i++) {
            x.constant(1);
        }
    }

    /** Pushes 1 + 1 + ... + 1 in that many terms, an odd number. */
    private static void pushSum(FixedArguments x, int terms) {
        x.constant(1);
        for (int i = 1; i < terms; i += 2) {
            x.constant(1);
            x.two(0);
        }
    }

    /** f0(a, b) = a ? f0(a - 1, b) : b, which makes a + 1 calls. */
    private static FixedArguments countDown() {
        FixedArguments x = new FixedArguments();
        x.argument(0);
        x.argument(0);
        x.constant(1);
        x.two(1);
        x.argument(1);
        x.two(4);
        x.argument(1);
        x.choose();
        x.define(0);
        return x;
    }

    /** Every function calls itself with values of its own in wait, as deep as a run goes. */
    private static FixedArguments withEndlessBodies() {
        FixedArguments x = new FixedArguments();
        for (int f = 0; f < 4; f++) {
            for (int i = 0; i < 7; i++) {
                x.argument(i % 2);
            }
            for (int i = 0; i < 6; i++) {
                x.two(i == 0 ? 4 + f : i % 4);
            }
            x.define(f);
        }
        return x;
    }
}
