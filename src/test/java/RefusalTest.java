import java.util.ArrayList;
import java.util.List;
import java.util.function.Consumer;
import java.util.function.ToIntFunction;

/**
 * "A refused call answers the code named and changes nothing": each refusal by
 * itself, made on one of two objects with the same past. Both are then asked
 * for all that can be seen of them.
 */
public final class RefusalTest {
    private static final int BAD_ARG = FixedArguments.BAD_ARG;
    private static final int FULL = FixedArguments.FULL;
    private static final int TOO_FEW = FixedArguments.TOO_FEW;
    private static final int[] BELOW_OR_ABOVE_FUNCTIONS = {-1, 4, Integer.MIN_VALUE, Integer.MAX_VALUE};
    private static final Check check = new Check();

    public static void main(String[] args) {
        for (int made = 0; made <= 14; made++) {
            int terms = made;
            refusedArguments("with " + terms + " terms", x -> push(x, terms));
        }
        refusedArguments("with one of fourteen", RefusalTest::pushOneOfFourteen);
        refusedWhenFull("with fourteen terms", x -> push(x, 14));
        refusedWhenFull("with one of fourteen", RefusalTest::pushOneOfFourteen);
        refusedWhenTooFew();
        check.end();
    }

    private static void refusedArguments(String state, Consumer<FixedArguments> past) {
        for (int c : new int[] {-21, 21, Integer.MIN_VALUE, Integer.MAX_VALUE}) {
            refused("2: constant(" + c + ") " + state, past, x -> x.constant(c), BAD_ARG);
        }
        for (int which : new int[] {-1, 2, Integer.MIN_VALUE, Integer.MAX_VALUE}) {
            refused("3: argument(" + which + ") " + state, past, x -> x.argument(which), BAD_ARG);
        }
        for (int op : new int[] {-1, 8, Integer.MIN_VALUE, Integer.MAX_VALUE}) {
            refused("4: two(" + op + ") " + state, past, x -> x.two(op), BAD_ARG);
        }
        for (int f : BELOW_OR_ABOVE_FUNCTIONS) {
            refused("6: define(" + f + ") " + state, past, x -> x.define(f), BAD_ARG);
            refused("9: run of " + f + " " + state, past, x -> x.run(f, 1, 2), 0);
            refused("10: ending of " + f + " " + state, past, x -> x.ending(f, 1, 2), BAD_ARG);
            refused("11: calls of " + f + " " + state, past, x -> x.calls(f, 1, 2), BAD_ARG);
            refused("12: callsOf, f " + f + " " + state, past, x -> x.callsOf(f, 1, 2, 0), BAD_ARG);
            refused("12: callsOf, g " + f + " " + state, past, x -> x.callsOf(0, 1, 2, f), BAD_ARG);
            refused("13: sumOver of " + f + " " + state, past, x -> x.sumOver(f, 1, 2, 3), 0);
            refused("14: solve of " + f + " " + state, past, x -> x.solve(f, 1, 2), -1);
        }
        for (int n : new int[] {-1, 9, Integer.MIN_VALUE, Integer.MAX_VALUE}) {
            refused("13: sumOver, n " + n + " " + state, past, x -> x.sumOver(1, 1, 2, n), 0);
        }
    }

    private static void refusedWhenFull(String state, Consumer<FixedArguments> past) {
        for (int c : new int[] {-20, 0, 20}) {
            refused("2: constant(" + c + ") " + state, past, x -> x.constant(c), FULL);
        }
        refused("3: argument(0) " + state, past, x -> x.argument(0), FULL);
        refused("3: argument(1) " + state, past, x -> x.argument(1), FULL);
        for (int op = 0; op < 8; op++) {
            int good = op;
            refused("4: two(" + good + ") " + state, past, x -> x.two(good), FULL);
        }
        refused("5: choose() " + state, past, x -> x.choose(), FULL);
    }

    private static void refusedWhenTooFew() {
        for (int made = 0; made <= 14; made++) {
            int terms = made;
            String state = "with " + terms + " terms";
            Consumer<FixedArguments> past = x -> push(x, terms);
            for (int op = 0; op < 8 && terms < 2; op++) {
                int good = op;
                refused("4: two(" + good + ") " + state, past, x -> x.two(good), TOO_FEW);
            }
            if (terms < 3) {
                refused("5: choose() " + state, past, x -> x.choose(), TOO_FEW);
            }
            for (int f = 0; f < 4 && terms != 1; f++) {
                int good = f;
                refused("6: define(" + good + ") " + state, past, x -> x.define(good), TOO_FEW);
            }
        }
    }

    private static void refused(String what, Consumer<FixedArguments> past,
            ToIntFunction<FixedArguments> call, int code) {
        FixedArguments untouched = withBodies();
        FixedArguments touched = withBodies();
        past.accept(untouched);
        past.accept(touched);
        check.due(what, call.applyAsInt(touched), code);
        check.due(what + ", once more", call.applyAsInt(touched), code);
        List<Integer> want = seen(untouched);
        List<Integer> got = seen(touched);
        check.due(what + " changes nothing: " + got + ", due is " + want, got.equals(want) ? 1 : 0, 1);
    }

    /** The stack, the bodies, the values of the terms on the stack, and how many were made. */
    private static List<Integer> seen(FixedArguments x) {
        List<Integer> seen = new ArrayList<>();
        seen.add(x.depth());
        seeBodies(x, seen);
        // Subtraction keeps the terms of the stack apart, in their order, as far as terms can be made.
        for (int i = 0; i < 15; i++) {
            seen.add(x.two(1));
        }
        seen.add(x.define(2));
        seeBodies(x, seen);
        for (int i = 0; i < 15; i++) {
            seen.add(x.constant(i));
        }
        return seen;
    }

    private static void seeBodies(FixedArguments x, List<Integer> seen) {
        for (int f = 0; f < 4; f++) {
            for (int a = -2; a <= 2; a++) {
                seen.add(x.run(f, a, 7));
                seen.add(x.ending(f, a, 7));
                seen.add(x.calls(f, a, 7));
            }
            seen.add(x.callsOf(f, 2, 1, 0));
        }
    }

    /** f0 = first * second, f1 = 5, f2 = first ? second : f1(first, second), f3 is tired. */
    private static FixedArguments withBodies() {
        FixedArguments x = new FixedArguments();
        x.argument(0);
        x.argument(1);
        x.two(2);
        x.define(0);
        x.constant(5);
        x.define(1);
        x.argument(0);
        x.argument(1);
        x.argument(0);
        x.argument(1);
        x.two(5);
        x.choose();
        x.define(2);
        x.argument(0);
        x.argument(1);
        x.two(7);
        x.define(3);
        return x;
    }

    private static void push(FixedArguments x, int terms) {
        for (int i = 0; i < terms; i++) {
            if (i % 5 == 3) {
                x.argument(i % 2);
            } else {
                x.constant(i * i % 20);
            }
        }
    }

    /** Fourteen made, one on the stack: (first ? 1 : 2) - 3 - 4 - 5 - 6 - 7. */
    private static void pushOneOfFourteen(FixedArguments x) {
        x.argument(0);
        x.constant(1);
        x.constant(2);
        x.choose();
        for (int i = 3; i < 8; i++) {
            x.constant(i);
            x.two(1);
        }
    }
}
