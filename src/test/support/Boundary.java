import java.lang.reflect.InvocationTargetException;
import java.lang.reflect.Method;
import java.util.Arrays;
import java.util.Comparator;

/**
 * What the boundary tests share. A test is a static method that is named after its promise and its case
 * ("promise03_..", or "terms_.." and "use_.." for what the document says before the promises).
 */
abstract class Boundary {
    static final int NONE = -1;
    static final int ENDLESS = -2;
    static final long NO_SUPPLY = -1000001L;
    static final long NO_SPAN = -1000000001L;
    static final long NO_BOUND = -1000000002L;
    static final long NO_LEAST = -10000001L;

    /** What a SUPPLY and a COST may be, up to both edges. */
    static final long[] TAKEN = {-1000000, -999999, -2, -1, 0, 1, 2, 999999, 1000000};
    /** What they may not be, from both edges on; also longs of which the lower half alone would be taken. */
    static final long[] REFUSED = {-1000001, 1000001, Integer.MIN_VALUE, Integer.MAX_VALUE, 1L << 32, (1L << 32) + 5,
        (1L << 32) - 1, -(1L << 32), -(1L << 32) + 3, Long.MIN_VALUE, Long.MIN_VALUE + 1, Long.MAX_VALUE - 1,
        Long.MAX_VALUE};
    /** Numbers that nothing ever has. */
    static final int[] NO_NUMBERS = {-1, -2, Integer.MIN_VALUE, Integer.MAX_VALUE, 1 << 16, 1 << 30};

    static final int EMPTY = 0;
    static final int NOT_RUN = 1;
    static final int BEST = 2;
    static final int FALLS = 3;
    static final int CANT = 4;
    static final int[] STATES = {EMPTY, NOT_RUN, BEST, FALLS, CANT};
    private static final String[] STATE_NAMES = {"empty", "not run", "BEST", "FALLS", "CAN'T"};

    private static String test = "";
    private static int wrong = 0;

    static void due(String call, long got, long want) {
        if (got != want) {
            tell(call + " answered " + got + ", due is " + want);
        }
    }

    static void due(String call, boolean got, boolean want) {
        if (got != want) {
            tell(call + " answered " + got + ", due is " + want);
        }
    }

    static void due(String call, String got, String want) {
        if (!got.equals(want)) {
            tell(call + " answered" + System.lineSeparator() + "  " + got + ", due is" + System.lineSeparator() + "  " + want);
        }
    }

    private static void tell(String text) {
        wrong++;
        System.out.println(test + ": " + text);
    }

    /** Runs each test of a class, so that none can be forgotten; ends with exit code 1 if one failed. */
    static void runAll(Class<?> tests) {
        Method[] methods = tests.getDeclaredMethods();
        Arrays.sort(methods, Comparator.comparing(Method::getName));
        int count = 0;
        for (Method method : methods) {
            if (method.getName().matches("(promise\\d\\d|terms|use)_.*")) {
                count++;
                runOne(method);
            }
        }
        System.out.println(wrong == 0 ? count + " tests, all answers are as due" : wrong + " answers are not as due");
        if (wrong != 0 || count == 0) {
            System.exit(1);
        }
    }

    private static void runOne(Method method) {
        test = method.getName();
        try {
            method.invoke(null);
        } catch (InvocationTargetException thrown) {
            tell("threw " + thrown.getCause());
        } catch (IllegalAccessException closed) {
            tell("can't be run");
        }
    }

    // ---- nets ----

    static CostFlow nodes(int count) {
        CostFlow x = new CostFlow();
        for (int k = 0; k < count; k++) {
            due("node(0)", x.node(0), k);
        }
        return x;
    }

    static CostFlow nodesOf(long... supplies) {
        CostFlow x = new CostFlow();
        for (int k = 0; k < supplies.length; k++) {
            due("node(" + supplies[k] + ")", x.node(supplies[k]), k);
        }
        return x;
    }

    static void arc(CostFlow x, int from, int to, long low, long most, long cost) {
        int number = x.told(1);
        due("arc", x.arc(from, to, low, most, cost), number);
    }

    /**
     * 4 units from NODE 0 to NODE 2; ARC 1 has 3 PIECES, the last one at 6, ARC 0 has 1; ARC 4 goes back beside ARC 1.
     * With an ASSIGNMENT of 2. Each state but the empty one has the same NODES, ARCS and PIECES.
     */
    static CostFlow inState(int state) {
        CostFlow x = new CostFlow();
        if (state == EMPTY) {
            return x;
        }
        x.node(state == CANT ? 9 : 4);
        x.node(0);
        x.node(state == CANT ? -9 : -4);
        x.arc(0, 1, 0, 3, 1);
        x.arc(1, 2, 0, ENDLESS, 2);
        x.arc(0, 2, 1, 5, 5);
        x.arc(1, 0, 0, ENDLESS, 0);
        x.arc(2, 1, 0, ENDLESS, state == FALLS ? -7 : 0);
        x.piece(0, 1, 1);
        x.piece(1, 2, 4);
        x.piece(1, 6, 5);
        x.piece(1, 9, 6);
        x.assign(2);
        x.put(0, 0, 3);
        x.put(0, 1, 1);
        x.put(1, 0, 2);
        if (state != NOT_RUN) {
            due("run of " + name(state), x.run(state % 3), state - BEST);
        }
        return x;
    }

    static String name(int state) {
        return STATE_NAMES[state];
    }

    // ---- what is asked ----

    /** All that can be asked of a small net, the first number beyond each row too: some 90 calls. */
    static String asked(CostFlow x) {
        StringBuilder all = new StringBuilder("told");
        for (int what = -1; what <= 7; what++) {
            all.append(' ').append(x.told(what));
        }
        all.append(" cost ").append(x.cost()).append(" check ").append(x.check()).append(" least ").append(x.least());
        for (int node = -1; node <= x.told(0); node++) {
            all.append(" node ").append(x.potential(node)).append(' ').append(x.set(node));
        }
        for (int arc = -1; arc <= x.told(1); arc++) {
            all.append(" arc ").append(x.on(arc)).append(' ').append(x.ring(arc)).append(' ').append(x.span(arc, 0));
            all.append(' ').append(x.span(arc, 1)).append(' ').append(x.keeps(arc, 3));
        }
        for (int i = -1; i <= x.told(5); i++) {
            all.append(" mate ").append(x.mate(i));
        }
        return all.toString();
    }

    /** What is answered when nothing is told of BEST, FALLS or CAN'T. */
    static void dueGone(String when, CostFlow x) {
        due(when + ": told(3)", x.told(3), 0);
        due(when + ": told(4)", x.told(4), 0);
        due(when + ": told(6)", x.told(6), NONE);
        dueNotBest(when, x);
        dueNoRing(when, x);
        dueNoSet(when, x);
    }

    static void dueNotBest(String when, CostFlow x) {
        due(when + ": cost()", x.cost(), 0);
        due(when + ": check()", x.check(), NONE);
        for (int k = -1; k < 3; k++) {
            due(when + ": on(" + k + ")", x.on(k), NONE);
            due(when + ": potential(" + k + ")", x.potential(k), 1);
            due(when + ": span(" + k + ", 0)", x.span(k, 0), NO_SPAN);
            due(when + ": span(" + k + ", 1)", x.span(k, 1), NO_SPAN);
            due(when + ": keeps(" + k + ", 1)", x.keeps(k, 1), false);
        }
    }

    static void dueNoRing(String when, CostFlow x) {
        due(when + ": told(3)", x.told(3), 0);
        for (int k = -1; k < 3; k++) {
            due(when + ": ring(" + k + ")", x.ring(k), NONE);
        }
    }

    static void dueNoSet(String when, CostFlow x) {
        due(when + ": told(4)", x.told(4), 0);
        for (int k = -1; k < 3; k++) {
            due(when + ": set(" + k + ")", x.set(k), NONE);
        }
    }

    static void dueNoPairing(String when, CostFlow x) {
        due(when + ": told(5)", x.told(5), 0);
        due(when + ": least()", x.least(), NO_LEAST);
        for (int i = -1; i < 9; i++) {
            due(when + ": mate(" + i + ")", x.mate(i), NONE);
        }
    }

    /** "No NODES, no ARCS, no ASSIGNMENT". */
    static void dueNothing(String when, CostFlow x) {
        for (int what = 0; what < 6; what++) {
            due(when + ": told(" + what + ")", x.told(what), 0);
        }
        dueGone(when, x);
        dueNoPairing(when, x);
        due(when + ": arc(0, 1, 0, 1, 1)", x.arc(0, 1, 0, 1, 1), NONE);
        due(when + ": piece(0, 1, 1)", x.piece(0, 1, 1), NONE);
        due(when + ": supply(0, 0)", x.supply(0, 0), NO_SUPPLY);
        due(when + ": price(0, 0)", x.price(0, 0), false);
        due(when + ": put(0, 0, 0)", x.put(0, 0, 0), false);
        due(when + ": told(6)", x.told(6), NONE);
    }

    /** THE RING, and that nothing comes after it. */
    static void dueRing(String when, CostFlow x, int... arcs) {
        due(when + ": told(6)", x.told(6), 1);
        due(when + ": told(3)", x.told(3), arcs.length);
        for (int k = 0; k < arcs.length; k++) {
            due(when + ": ring(" + k + ")", x.ring(k), arcs[k]);
        }
        due(when + ": ring(" + arcs.length + ")", x.ring(arcs.length), NONE);
        for (int k : NO_NUMBERS) {
            due(when + ": ring(" + k + ")", x.ring(k), NONE);
        }
    }

    /** THE SET, and that nothing comes after it. */
    static void dueSet(String when, CostFlow x, int... members) {
        due(when + ": told(6)", x.told(6), 2);
        due(when + ": told(4)", x.told(4), members.length);
        for (int k = 0; k < members.length; k++) {
            due(when + ": set(" + k + ")", x.set(k), members[k]);
        }
        due(when + ": set(" + members.length + ")", x.set(members.length), NONE);
        for (int k : NO_NUMBERS) {
            due(when + ": set(" + k + ")", x.set(k), NONE);
        }
    }

    static int[] upTo(int count) {
        int[] numbers = new int[count];
        for (int k = 0; k < count; k++) {
            numbers[k] = k;
        }
        return numbers;
    }
}
