import java.util.LinkedHashMap;
import java.util.Map;
import java.util.function.ToLongFunction;

// What a call leaves behind: a question changes no later answer, whatever was asked before, and after
// a change every answer is that of a new object with the same polynomials.
public final class StateTest extends Checks {
    // (x - 1)^2 (x^2 - 2), and (x - 1) (2 x - 3)
    private static final int[] A = {-2, 4, -1, -2, 1};
    private static final int[] B = {3, -5, 2};
    private static final int LEVEL = 3;

    private static final Map<String, ToLongFunction<RootIsolator>> QUESTIONS = new LinkedHashMap<>();
    private static final Map<String, ToLongFunction<RootIsolator>> CHANGES = new LinkedHashMap<>();
    private static final Map<String, ToLongFunction<RootIsolator>> KEEPING = new LinkedHashMap<>();

    private static void questions() {
        for (int k = 0; k <= 1; k++) {
            int which = k;
            QUESTIONS.put("get(" + which + ", 2)", x -> x.get(which, 2));
            QUESTIONS.put("degree(" + which + ")", x -> x.degree(which));
            QUESTIONS.put("sign(" + which + ", 5, 2)", x -> x.sign(which, 5, 2));
            QUESTIONS.put("between(" + which + ", 1, 0, 3, 1)", x -> x.between(which, 1, 0, 3, 1));
            QUESTIONS.put("roots(" + which + ")", x -> x.roots(which));
        }
        QUESTIONS.put("common()", RootIsolator::common);
        QUESTIONS.put("divisor()", RootIsolator::divisor);
        for (int k = 0; k <= 2; k++) {
            int i = k;
            QUESTIONS.put("level(" + i + ")", x -> x.level(i));
            QUESTIONS.put("cell(" + i + ")", x -> x.cell(i));
            QUESTIONS.put("exact(" + i + ")", x -> x.exact(i));
            QUESTIONS.put("multiplicity(" + i + ")", x -> x.multiplicity(i));
            QUESTIONS.put("signAt(" + i + ")", x -> x.signAt(i));
        }
    }

    private static void changes() {
        CHANGES.put("set(0, 0, -3)", x -> x.set(0, 0, -3));
        CHANGES.put("set(0, 4, 0)", x -> x.set(0, 4, 0));
        CHANGES.put("times(2)", x -> x.times(2));
        CHANGES.put("shift(-1)", x -> x.shift(-1));
        CHANGES.put("swap()", RootIsolator::swap);
        KEEPING.put("set(1, 0, -3)", x -> x.set(1, 0, -3));
        KEEPING.put("set(1, 2, 0)", x -> x.set(1, 2, 0));
        KEEPING.put("derive()", RootIsolator::derive);
        KEEPING.put("isolate(" + LEVEL + ")", x -> x.isolate(LEVEL));
        KEEPING.put("isolate(31)", x -> x.isolate(31));
        KEEPING.put("set(0, 9, 1)", x -> x.set(0, 9, 1));
        KEEPING.put("set(0, 0, 1000000001)", x -> x.set(0, 0, MOST + 1));
        KEEPING.put("times(1000000000)", x -> x.times(MOST));
        KEEPING.put("shift(1000000000)", x -> x.shift(MOST));
    }

    private static RootIsolator start() {
        RootIsolator x = pair(A, B);
        x.isolate(LEVEL);
        return x;
    }

    private static RootIsolator copy(RootIsolator x) {
        RootIsolator y = new RootIsolator();
        for (int power = 0; power <= 8; power++) {
            y.set(0, power, x.get(0, power));
            y.set(1, power, x.get(1, power));
        }
        return y;
    }

    private static void askedInAnyOrder() {
        for (String first : QUESTIONS.keySet()) {
            long want = QUESTIONS.get(first).applyAsLong(start());
            RootIsolator x = start();
            for (String second : QUESTIONS.keySet()) {
                due(first + " again", QUESTIONS.get(first).applyAsLong(x), want);
                QUESTIONS.get(second).applyAsLong(x);
                due(first + " after " + second, QUESTIONS.get(first).applyAsLong(x), want);
            }
        }
    }

    private static void askedAfter(String change, ToLongFunction<RootIsolator> call, boolean forgets) {
        for (String question : QUESTIONS.keySet()) {
            ToLongFunction<RootIsolator> ask = QUESTIONS.get(question);
            RootIsolator x = start();
            ask.applyAsLong(x);
            call.applyAsLong(x);
            RootIsolator y = copy(x);
            if (!forgets) {
                y.isolate(LEVEL);
            }
            due(question + " after " + change, ask.applyAsLong(x), ask.applyAsLong(y));
            due(change + ", then isolate", x.isolate(LEVEL), y.isolate(LEVEL));
            due(question + " after " + change + " and isolate", ask.applyAsLong(x), ask.applyAsLong(y));
        }
    }

    public static void main(String[] args) {
        questions();
        changes();
        askedInAnyOrder();
        CHANGES.forEach((change, call) -> askedAfter(change, call, true));
        KEEPING.forEach((change, call) -> askedAfter(change, call, false));
        end();
    }
}
