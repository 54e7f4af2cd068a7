import java.lang.reflect.Field;
import java.lang.reflect.Modifier;

/**
 * Rule 7 of LANGUAGE.md by its words: no call throws or fails to end, for any
 * arguments in any state. Calls alone reach only states that hang together, so
 * the fields are set from outside, each to whatever it can hold; what a call
 * then answers is free.
 */
public final class AnyStateTest {
    private static final int STATES = 20000;
    private static final String[] METHODS = {
        "constant", "argument", "two", "choose", "define", "discard", "depth",
        "run", "ending", "calls", "callsOf", "sumOver", "solve"
    };
    private static final int[] EDGES = {
        Integer.MIN_VALUE, Integer.MIN_VALUE + 1, -15, -2, -1, 0, 1, 2, 3, 4, 7, 8, 11, 12, 13, 14,
        15, 55, 56, 57, 59, 60, 61, 69, 70, 838, 839, 840, 841,
        Integer.MAX_VALUE - 1, Integer.MAX_VALUE
    };

    private static final Check check = new Check();
    private static long seed = 7;

    public static void main(String[] args) throws IllegalAccessException {
        for (int state = 0; state < STATES; state++) {
            FixedArguments x = new FixedArguments();
            // Some states are wild all over, others in a field or two alone.
            int share = 1 + below(12);
            for (String method : METHODS) {
                makeWild(x, share);
                mustNotThrow(x, method, "state " + state + ": ");
            }
        }
        check.end();
    }

    private static void makeWild(FixedArguments x, int share) throws IllegalAccessException {
        for (Field field : FixedArguments.class.getDeclaredFields()) {
            if (!Modifier.isStatic(field.getModifiers()) && below(share) == 0) {
                field.setAccessible(true);
                setWild(x, field);
            }
        }
    }

    private static void setWild(FixedArguments x, Field field) throws IllegalAccessException {
        if (field.getType() == int.class) {
            field.setInt(x, number());
        } else if (field.getType() == boolean.class) {
            field.setBoolean(x, below(2) == 0);
        } else if (field.getType() == int[].class) {
            int[] array = (int[]) field.get(x);
            for (int i = 0; i < array.length; i++) {
                array[i] = number();
            }
        } else {
            check.due("types that this test cannot set, with " + field.getName() + ",", 1, 0);
        }
    }

    private static void mustNotThrow(FixedArguments x, String method, String at) {
        int f = below(8) == 0 ? number() : below(4);
        int a = number();
        int b = number();
        try {
            call(x, method, f, a, b);
        } catch (RuntimeException | Error thrown) {
            check.threw(at + method + " with " + f + ", " + a + ", " + b, thrown);
        }
    }

    private static void call(FixedArguments x, String method, int f, int a, int b) {
        switch (method) {
            case "constant": x.constant(f); break;
            case "argument": x.argument(f); break;
            case "two": x.two(f); break;
            case "choose": x.choose(); break;
            case "define": x.define(f); break;
            case "discard": x.discard(); break;
            case "depth": x.depth(); break;
            case "run": x.run(f, a, b); break;
            case "ending": x.ending(f, a, b); break;
            case "calls": x.calls(f, a, b); break;
            case "callsOf": x.callsOf(f, a, b, below(5)); break;
            case "sumOver": x.sumOver(f, a, b, below(9)); break;
            default: x.solve(f, a, b); break;
        }
    }

    private static int number() {
        return below(3) == 0 ? EDGES[below(EDGES.length)] : below(16);
    }

    private static int below(int bound) {
        seed = seed * 6364136223846793005L + 1442695040888963407L;
        return (int) ((seed >>> 33) % bound);
    }
}
