import java.util.ArrayList;
import java.util.Arrays;
import java.util.List;

/**
 * Long runs of calls, each answer held against a model that follows the
 * document's words with trees and recursion. The calls come from a fixed
 * sequence, so a failure comes back the same.
 */
public final class ModelTest {
    private static final int OBJECTS = 4000;
    private static final int CALLS = 512;
    private static final int[] EDGES = {
        Integer.MIN_VALUE, Integer.MIN_VALUE + 1, -61, -21, -20, -1, 0, 1, 2, 3, 4, 7, 8, 9,
        15, 16, 20, 21, 59, 60, 65536, Integer.MAX_VALUE - 1, Integer.MAX_VALUE
    };

    private static final Check check = new Check();
    private static long seed = 20261115;
    private static int doneRuns = 0;
    private static int tiredRuns = 0;
    private static int solved = 0;

    public static void main(String[] args) {
        for (int i = 0; i < OBJECTS; i++) {
            FixedArguments x = new FixedArguments();
            Model model = new Model();
            for (int call = 0; call < CALLS; call++) {
                callBoth(x, model, "object " + i + ", call " + call + ": ");
            }
        }
        check.due("done runs with several calls are common", doneRuns > 10000 ? 1 : 0, 1);
        check.due("tired runs are common", tiredRuns > 10000 ? 1 : 0, 1);
        check.due("solved ones above 0 are common", solved > 1000 ? 1 : 0, 1);
        check.end();
    }

    private static void callBoth(FixedArguments x, Model model, String at) {
        int pick = below(100);
        if (pick < 14) {
            int c = below(8) == 0 ? number() : below(5) - 2;
            check.due(at + "constant(" + c + ")", x.constant(c), model.constant(c));
        } else if (pick < 34) {
            int which = below(20) == 0 ? number() : below(2);
            check.due(at + "argument(" + which + ")", x.argument(which), model.argument(which));
        } else if (pick < 52) {
            int op = below(20) == 0 ? number() : below(8);
            check.due(at + "two(" + op + ")", x.two(op), model.two(op));
        } else if (pick < 62) {
            check.due(at + "choose()", x.choose(), model.choose());
        } else if (pick < 76) {
            int f = function();
            check.due(at + "define(" + f + ")", x.define(f), model.define(f));
        } else if (pick < 77) {
            x.discard();
            model.emptyStack();
        } else if (pick < 79) {
            check.due(at + "depth()", x.depth(), model.stack.size());
        } else {
            runBoth(x, model, at);
        }
    }

    private static void runBoth(FixedArguments x, Model model, String at) {
        int f = function();
        int a = number();
        int b = number();
        String of = "(" + f + ", " + a + ", " + b;
        switch (below(6)) {
            case 0:
                check.due(at + "run" + of + ")", x.run(f, a, b), model.run(f, a, b));
                break;
            case 1:
                check.due(at + "ending" + of + ")", x.ending(f, a, b), model.ending(f, a, b));
                break;
            case 2:
                check.due(at + "calls" + of + ")", x.calls(f, a, b), model.calls(f, a, b));
                break;
            case 3:
                int g = function();
                check.due(at + "callsOf" + of + ", " + g + ")",
                        x.callsOf(f, a, b, g), model.callsOf(f, a, b, g));
                break;
            case 4:
                int n = below(10) == 0 ? number() : below(11) - 1;
                check.due(at + "sumOver" + of + ", " + n + ")",
                        x.sumOver(f, a, b, n), model.sumOver(f, a, b, n));
                break;
            default:
                // Half of the values asked for come from a run that may answer them.
                int v = below(2) == 0 ? b : model.run(f, a, below(17));
                int want = model.solve(f, a, v);
                solved += want > 0 ? 1 : 0;
                check.due(at + "solve(" + f + ", " + a + ", " + v + ")", x.solve(f, a, v), want);
                break;
        }
        if (Model.isFunction(f)) {
            model.work(f, a, b);
            doneRuns += !model.tired && model.entered > 2 ? 1 : 0;
            tiredRuns += model.tired ? 1 : 0;
        }
    }

    private static int below(int bound) {
        seed = seed * 6364136223846793005L + 1442695040888963407L;
        return (int) ((seed >>> 33) % bound);
    }

    private static int function() {
        return below(25) == 0 ? number() : below(4);
    }

    private static int number() {
        return below(3) == 0 ? EDGES[below(EDGES.length)] : below(20) - 5;
    }

    private static final class Term {
        final String kind;
        final int number;
        final Term[] parts;

        Term(String kind, int number, Term... parts) {
            this.kind = kind;
            this.number = number;
            this.parts = parts;
        }
    }

    private static final class Model {
        private static final String[] OPS = {"add", "sub", "mul", "less"};

        final List<Term> stack = new ArrayList<>();
        final Term[] bodies = new Term[4];
        int made = 0;
        boolean tired;
        int entered;
        final int[] enteredOf = new int[4];

        Model() {
            Arrays.fill(bodies, new Term("constant", 0));
        }

        static boolean isFunction(int f) {
            return 0 <= f && f <= 3;
        }

        int constant(int c) {
            if (c < -20 || c > 20) {
                return -1;
            }
            return made == 14 ? -2 : push(new Term("constant", c));
        }

        int argument(int which) {
            if (which < 0 || which > 1) {
                return -1;
            }
            return made == 14 ? -2 : push(new Term(which == 0 ? "first" : "second", 0));
        }

        int two(int op) {
            if (op < 0 || op > 7) {
                return -1;
            }
            if (made == 14) {
                return -2;
            }
            if (stack.size() < 2) {
                return -3;
            }
            Term y = pop();
            Term x = pop();
            return push(op < 4 ? new Term(OPS[op], 0, x, y) : new Term("call", op - 4, x, y));
        }

        int choose() {
            if (made == 14) {
                return -2;
            }
            if (stack.size() < 3) {
                return -3;
            }
            Term y = pop();
            Term x = pop();
            Term c = pop();
            return push(new Term("choose", 0, c, x, y));
        }

        int define(int f) {
            if (!isFunction(f)) {
                return -1;
            }
            if (stack.size() != 1) {
                return -3;
            }
            bodies[f] = pop();
            int answer = made;
            emptyStack();
            return answer;
        }

        void emptyStack() {
            stack.clear();
            made = 0;
        }

        private int push(Term term) {
            stack.add(term);
            made++;
            return stack.size();
        }

        private Term pop() {
            return stack.remove(stack.size() - 1);
        }

        int run(int f, int a, int b) {
            return isFunction(f) ? work(f, a, b) : 0;
        }

        int ending(int f, int a, int b) {
            if (!isFunction(f)) {
                return -1;
            }
            work(f, a, b);
            return tired ? 1 : 0;
        }

        int calls(int f, int a, int b) {
            if (!isFunction(f)) {
                return -1;
            }
            work(f, a, b);
            return entered;
        }

        int callsOf(int f, int a, int b, int g) {
            if (!isFunction(f) || !isFunction(g)) {
                return -1;
            }
            work(f, a, b);
            return enteredOf[g];
        }

        int sumOver(int f, int a, int b, int n) {
            int sum = 0;
            if (isFunction(f) && 0 <= n && n <= 8) {
                for (int i = 0; i < n; i++) {
                    sum += work(f, a, b + i);
                }
            }
            return sum;
        }

        int solve(int f, int a, int v) {
            for (int i = 0; isFunction(f) && i <= 15; i++) {
                int value = work(f, a, i);
                if (!tired && value == v) {
                    return i;
                }
            }
            return -1;
        }

        int work(int f, int a, int b) {
            tired = false;
            entered = 0;
            Arrays.fill(enteredOf, 0);
            int value = enter(f, a, b);
            return tired ? 0 : value;
        }

        private int enter(int g, int a, int b) {
            if (entered == 60) {
                tired = true;
                return 0;
            }
            entered++;
            enteredOf[g]++;
            return value(bodies[g], a, b);
        }

        /** Once the run is tired, nothing more is worked out and the value means nothing. */
        private int value(Term term, int a, int b) {
            if (tired) {
                return 0;
            }
            switch (term.kind) {
                case "constant":
                    return term.number;
                case "first":
                    return a;
                case "second":
                    return b;
                case "choose":
                    int c = value(term.parts[0], a, b);
                    return value(term.parts[c != 0 ? 1 : 2], a, b);
                default:
                    int x = value(term.parts[0], a, b);
                    int y = value(term.parts[1], a, b);
                    return tired ? 0 : ofTwo(term, x, y);
            }
        }

        private int ofTwo(Term term, int x, int y) {
            switch (term.kind) {
                case "add":
                    return x + y;
                case "sub":
                    return x - y;
                case "mul":
                    return x * y;
                case "less":
                    return x < y ? 1 : 0;
                default:
                    return enter(term.number, x, y);
            }
        }
    }
}
