import java.util.ArrayList;
import java.util.List;
import java.util.function.ToLongFunction;

/** Promises 20 and 21, what is gone and what stays, refused calls, the full net and the 512 calls. */
public final class StateBoundaryTest extends Boundary {

    /** A call on an object of any state, and its answer (a boolean counts 1 or 0). */
    private record Call(String name, ToLongFunction<CostFlow> made, long answer) {
    }

    // ---- calls that each state refuses ----

    private static void addRefusedNodes(List<Call> calls) {
        for (long supply : REFUSED) {
            calls.add(new Call("node(" + supply + ")", x -> x.node(supply), NONE));
            calls.add(new Call("supply(1, " + supply + ")", x -> x.supply(1, supply), NO_SUPPLY));
            calls.add(new Call("price(2, " + supply + ")", x -> x.price(2, supply) ? 1 : 0, 0));
            calls.add(new Call("put(1, 1, " + supply + ")", x -> x.put(1, 1, supply) ? 1 : 0, 0));
        }
        for (int no : new int[] {-1, 3, Integer.MIN_VALUE, Integer.MAX_VALUE}) {
            calls.add(new Call("supply(" + no + ", 0)", x -> x.supply(no, 0), NO_SUPPLY));
        }
        for (int no : new int[] {-1, 0, 1, 5, Integer.MIN_VALUE, Integer.MAX_VALUE}) {
            calls.add(new Call("price(" + no + ", 0)", x -> x.price(no, 0) ? 1 : 0, 0));
        }
    }

    private static void addRefusedArcs(List<Call> calls) {
        for (int no : new int[] {-1, 3, Integer.MIN_VALUE, Integer.MAX_VALUE}) {
            calls.add(new Call("arc from " + no, x -> x.arc(no, 0, 0, 1, 1), NONE));
            calls.add(new Call("arc to " + no, x -> x.arc(0, no, 0, 1, 1), NONE));
        }
        for (int node = 0; node < 3; node++) {
            int same = node;
            calls.add(new Call("arc, both " + same, x -> x.arc(same, same, 0, 1, 1), NONE));
        }
        for (long number : REFUSED) {
            calls.add(new Call("arc, LOW " + number, x -> x.arc(0, 1, number, ENDLESS, 1), NONE));
            calls.add(new Call("arc, MOST " + number, x -> x.arc(0, 1, 0, number, 1), NONE));
            calls.add(new Call("arc, COST " + number, x -> x.arc(0, 1, 0, 1, number), NONE));
        }
        calls.add(new Call("arc, LOW -1", x -> x.arc(0, 1, -1, 1, 1), NONE));
        calls.add(new Call("arc, MOST below LOW", x -> x.arc(0, 1, 2, 1, 1), NONE));
        calls.add(new Call("arc, MOST -1", x -> x.arc(0, 1, 0, -1, 1), NONE));
        calls.add(new Call("arc, MOST -3", x -> x.arc(0, 1, 0, -3, 1), NONE));
    }

    private static void addRefusedPieces(List<Call> calls) {
        for (int no : new int[] {-1, 5, Integer.MIN_VALUE, Integer.MAX_VALUE}) {
            calls.add(new Call("piece of " + no, x -> x.piece(no, 2, 9), NONE));
        }
        calls.add(new Call("a fourth piece", x -> x.piece(1, 10, 7), NONE));
        calls.add(new Call("piece at its last MARK", x -> x.piece(0, 1, 7), NONE));
        calls.add(new Call("piece at MOST", x -> x.piece(0, 3, 7), NONE));
        calls.add(new Call("piece at LOW", x -> x.piece(2, 1, 7), NONE));
        calls.add(new Call("piece, MARK 0", x -> x.piece(3, 0, 7), NONE));
        calls.add(new Call("piece, COST below", x -> x.piece(0, 2, 0), NONE));
        calls.add(new Call("piece, COST below", x -> x.piece(2, 2, 4), NONE));
        for (long number : REFUSED) {
            calls.add(new Call("piece, MARK " + number, x -> x.piece(3, number, 7), NONE));
            calls.add(new Call("piece, COST " + number, x -> x.piece(3, 1, number), NONE));
        }
    }

    private static void addRefusedPairs(List<Call> calls) {
        for (int no : new int[] {-1, 3, Integer.MIN_VALUE, Integer.MAX_VALUE}) {
            calls.add(new Call("run(" + no + ")", x -> x.run(no), NONE));
        }
        for (int no : new int[] {-1, 2, 8, Integer.MIN_VALUE, Integer.MAX_VALUE}) {
            calls.add(new Call("put(" + no + ", 0)", x -> x.put(no, 0, 0) ? 1 : 0, 0));
            calls.add(new Call("put(0, " + no + ")", x -> x.put(0, no, 0) ? 1 : 0, 0));
        }
        for (int no : new int[] {-1, 0, 9, Integer.MIN_VALUE, Integer.MAX_VALUE}) {
            calls.add(new Call("assign(" + no + ")", x -> x.assign(no) ? 1 : 0, 0));
        }
    }

    private static List<Call> refused() {
        List<Call> calls = new ArrayList<>();
        addRefusedNodes(calls);
        addRefusedArcs(calls);
        addRefusedPieces(calls);
        addRefusedPairs(calls);
        return calls;
    }

    /** Answers of calls that are taken, so that what a refused call left behind would show. */
    private static String later(CostFlow x) {
        StringBuilder all = new StringBuilder();
        all.append(x.run(0)).append(' ').append(asked(x));
        all.append(" tell ").append(x.price(2, 6)).append(x.piece(0, 2, 3)).append(' ').append(x.piece(2, 2, 8));
        all.append(' ').append(x.supply(0, 5)).append(' ').append(x.supply(1, 0)).append(' ').append(x.supply(2, -5));
        all.append(' ').append(x.node(0)).append(' ').append(x.arc(1, 3, 0, ENDLESS, 1));
        all.append(' ').append(x.arc(3, 2, 0, 5, 0)).append(' ').append(x.put(1, 1, 0)).append(x.put(0, 0, -2));
        all.append(' ').append(x.run(2)).append(' ').append(asked(x));
        return all.toString();
    }

    static void terms_aRefusedCallAnswersAndTheToldStays() {
        for (Call call : refused()) {
            for (int state : STATES) {
                CostFlow x = inState(state);
                String before = asked(x);
                due(name(state) + ": " + call.name(), call.made().applyAsLong(x), call.answer());
                due(name(state) + " after " + call.name(), asked(x), before);
            }
        }
    }

    static void terms_aRefusedCallChangesNothingLater() {
        for (int state : STATES) {
            String want = later(inState(state));
            for (Call call : refused()) {
                CostFlow x = inState(state);
                due(name(state) + ": " + call.name(), call.made().applyAsLong(x), call.answer());
                due(name(state) + ": later, after " + call.name(), later(x), want);
            }
        }
    }

    static void terms_severalRefusalsAtOnce() {
        for (int state : STATES) {
            CostFlow x = inState(state);
            String before = asked(x);
            for (int no : NO_NUMBERS) {
                due("arc", x.arc(no, no, Long.MIN_VALUE, Long.MAX_VALUE, Long.MIN_VALUE), NONE);
                due("piece", x.piece(no, Long.MAX_VALUE, Long.MIN_VALUE), NONE);
                due("supply", x.supply(no, Long.MIN_VALUE), NO_SUPPLY);
                due("price", x.price(no, Long.MAX_VALUE), false);
                due("span", x.span(no, no), NO_SPAN);
                due("keeps", x.keeps(no, Long.MAX_VALUE), false);
                due("put", x.put(no, no, Long.MAX_VALUE), false);
            }
            due(name(state) + " after them", asked(x), before);
        }
    }

    // ---- what is gone, and what is not ----

    private static List<Call> told() {
        List<Call> calls = new ArrayList<>();
        calls.add(new Call("node", x -> x.node(0), 3));
        calls.add(new Call("arc", x -> x.arc(0, 1, 0, 0, 1000000), 5));
        calls.add(new Call("piece", x -> x.piece(3, 1000000, 0), 1));
        calls.add(new Call("another supply", x -> x.supply(1, 1), 0));
        calls.add(new Call("the same supply", x -> x.supply(1, 0), 0));
        calls.add(new Call("another price", x -> x.price(3, 1) ? 1 : 0, 1));
        calls.add(new Call("the same price", x -> x.price(3, 0) ? 1 : 0, 1));
        return calls;
    }

    static void terms_whatIsToldIsGone() {
        for (Call call : told()) {
            for (int state : new int[] {NOT_RUN, BEST, FALLS, CANT}) {
                CostFlow x = inState(state);
                due(name(state) + ": " + call.name(), call.made().applyAsLong(x), call.answer());
                dueGone(name(state) + " after " + call.name(), x);
            }
        }
    }

    static void terms_whatIsToldIsThereAgainAfterARun() {
        for (int state : new int[] {BEST, FALLS, CANT}) {
            CostFlow x = inState(state);
            String before = asked(x);
            due("the same supply", x.supply(1, 0), 0);
            due("run(1)", x.run(1), state - BEST);
            due(name(state) + " again", asked(x), before);
        }
    }

    static void terms_oneRunAfterAnother() {
        CostFlow x = inState(BEST);
        due("price", x.price(4, -7), true);
        due("FALLS after BEST", x.run(0), 1);
        dueNotBest("FALLS after BEST", x);
        dueNoSet("FALLS after BEST", x);
        x.supply(0, 9);
        x.supply(2, -9);
        due("CAN'T after FALLS", x.run(0), 2);
        dueNotBest("CAN'T after FALLS", x);
        dueNoRing("CAN'T after FALLS", x);
        x.supply(0, 4);
        x.supply(2, -4);
        x.price(4, 0);
        due("BEST after CAN'T", x.run(0), 0);
        due("cost()", x.cost(), 16);
        dueNoRing("BEST after CAN'T", x);
        dueNoSet("BEST after CAN'T", x);
    }

    static void terms_theAssignmentLeavesTheFlow() {
        for (int state : new int[] {NOT_RUN, BEST, FALLS, CANT}) {
            CostFlow x = inState(state);
            String before = withoutPairs(x);
            due("put", x.put(0, 0, -9), true);
            due(name(state) + " after put", withoutPairs(x), before);
            due("assign", x.assign(8), true);
            due(name(state) + " after assign", withoutPairs(x), before);
        }
    }

    private static String withoutPairs(CostFlow x) {
        String all = asked(x);
        String flow = all.substring(all.indexOf(" node "), all.indexOf(" mate "));
        return x.told(6) + " " + x.told(3) + " " + x.told(4) + " " + x.cost() + " " + x.check() + flow;
    }

    static void terms_theFlowLeavesTheAssignment() {
        for (Call call : told()) {
            CostFlow x = inState(BEST);
            due(call.name(), call.made().applyAsLong(x), call.answer());
            for (int way = 0; way < 3; way++) {
                x.run(way);
                due("told(5) after " + call.name(), x.told(5), 2);
                due("least() after " + call.name(), x.least(), 3);
                due("mate(0) after " + call.name(), x.mate(0), 1);
                due("mate(1) after " + call.name(), x.mate(1), 0);
            }
        }
    }

    static void terms_theAssignmentIsGoneWhenItsPairsAreTold() {
        CostFlow x = inState(NOT_RUN);
        due("least()", x.least(), 3);
        due("put", x.put(1, 1, -3), true);
        due("least()", x.least(), 0);
        due("mate(0)", x.mate(0), 0);
        due("mate(1)", x.mate(1), 1);
        due("put", x.put(1, 0, -3), true);
        due("mate(0)", x.mate(0), 1);
        due("least()", x.least(), -2);
        due("refused", x.put(1, 2, -9), false);
        due("least()", x.least(), -2);
    }

    static void terms_askingChangesNothing() {
        for (int state : STATES) {
            CostFlow x = inState(state);
            String first = asked(x);
            due(name(state), asked(x), first);
            due(name(state), asked(x), first);
        }
    }

    // ---- promise 20 ----

    static void promise20_anotherWhat() {
        for (int state : STATES) {
            CostFlow x = inState(state);
            for (int what : new int[] {-1, 7, -2, 8, 256, 65536, 1 << 30, Integer.MIN_VALUE, Integer.MAX_VALUE}) {
                due(name(state) + ": told(" + what + ")", x.told(what), NONE);
            }
        }
    }

    static void promise20_howMany() {
        int[][] counts = {{0, 0, 0, 0, 0, 0, -1}, {3, 5, 4, 0, 0, 2, -1}, {3, 5, 4, 0, 0, 2, 0}, {3, 5, 4, 2, 0, 2, 1},
            {3, 5, 4, 0, 1, 2, 2}};
        for (int state : STATES) {
            CostFlow x = inState(state);
            for (int what = 0; what < 7; what++) {
                due(name(state) + ": told(" + what + ")", x.told(what), counts[state][what]);
            }
        }
    }

    static void promise20_refusedIsNotCounted() {
        CostFlow x = inState(BEST);
        x.node(1000001);
        x.arc(0, 0, 0, 0, 0);
        x.piece(1, 11, 7);
        x.assign(9);
        int[] counts = {3, 5, 4, 0, 0, 2, 0};
        for (int what = 0; what < 7; what++) {
            due("told(" + what + ")", x.told(what), counts[what]);
        }
    }

    static void promise20_theLatestRunOfSeveral() {
        CostFlow x = inState(CANT);
        due("run(3)", x.run(3), NONE);
        due("told(6), run(3) was refused", x.told(6), 2);
        x.supply(0, 8);
        due("told(6), gone", x.told(6), NONE);
        x.supply(2, -8);
        due("told(6), still gone", x.told(6), NONE);
        due("run(0)", x.run(0), 0);
        due("told(6)", x.told(6), 0);
        due("run(-1)", x.run(-1), NONE);
        due("told(6), run(-1) was refused", x.told(6), 0);
    }

    // ---- promise 21 ----

    static void promise21_nothingAsAtFirst() {
        for (int state : STATES) {
            CostFlow x = inState(state);
            x.clear();
            dueNothing(name(state) + " and cleared", x);
            x.clear();
            dueNothing(name(state) + " and cleared twice", x);
        }
    }

    static void promise21_whatIsToldAfterItIsAsOfANewObject() {
        for (int before : STATES) {
            for (int state : STATES) {
                CostFlow x = inState(before);
                x.clear();
                due(name(before) + ", cleared, " + name(state), replay(x, state), replay(new CostFlow(), state));
            }
        }
    }

    /** Tells a smaller net than that of inState(), so that what it had would show. */
    private static String replay(CostFlow x, int state) {
        StringBuilder all = new StringBuilder();
        all.append(x.node(state == CANT ? 3 : 2)).append(x.node(state == CANT ? -3 : -2));
        all.append(x.arc(0, 1, 0, 2, state)).append(x.arc(1, 0, 0, ENDLESS, state == FALLS ? -4 : 4));
        all.append(x.arc(0, 1, 0, state == FALLS ? ENDLESS : 0, 3)).append(x.price(1, state == FALLS ? -4 : 1));
        all.append(x.piece(1, 1, 1)).append(x.assign(2)).append(x.put(1, 1, 5)).append(' ').append(x.run(0));
        all.append(' ').append(asked(x)).append(x.put(0, 0, 5)).append(' ').append(x.least());
        return all.toString();
    }

    static void promise21_theFullNetAndAfterItTheFullNet() {
        CostFlow x = fullNet(new CostFlow());
        x.clear();
        dueNothing("the full net, cleared", x);
        x = new CostFlow();
        for (int k = 0; k < 24; k++) {
            due("node", x.node(9), k);
        }
        for (int k = 0; k < 40; k++) {
            due("arc", x.arc(k % 24, (k + 1) % 24, 1, ENDLESS, -5), k);
        }
        x.clear();
        fullNet(x);
        dueFullNet(x, 0);
    }

    // ---- the full net ----

    /**
     * 344 calls: a million from each of 12 NODES to one of 12 others, on 6 or 7 ARCS side by side, each with 3 PIECES:
     * a quarter of a million on each of the last four is least.
     */
    private static CostFlow fullNet(CostFlow x) {
        for (int k = 0; k < 24; k++) {
            due("node", x.node(k < 12 ? 1000000 : -1000000), k);
        }
        for (int k = 0; k < 80; k++) {
            due("arc", x.arc(k % 12, 12 + k % 12, 0, 1000000, 10 + k % 12), k);
        }
        for (int k = 0; k < 80; k++) {
            for (int p = 1; p <= 3; p++) {
                due("piece", x.piece(k, 250000 * p, 10 + k % 12 + p), p);
            }
        }
        return x;
    }

    private static void dueFullNet(CostFlow x, int way) {
        due("run", x.run(way), 0);
        due("cost()", x.cost(), 186000000);
        for (int k = 0; k < 80; k++) {
            due("on(" + k + ")", x.on(k), k < 32 ? 0 : 250000);
        }
    }

    static void terms_theFullNet() {
        for (int way = 0; way < 3; way++) {
            CostFlow x = fullNet(new CostFlow());
            due("told(0)", x.told(0), 24);
            due("told(1)", x.told(1), 80);
            due("told(2)", x.told(2), 240);
            dueFullNet(x, way);
            due("check()", x.check(), 1);
            for (int node = 0; node < 24; node++) {
                due("potential(" + node + ")", x.potential(node), node < 12 ? -10 - node : 0);
            }
        }
    }

    static void terms_theFullNetRefusesMore() {
        CostFlow x = fullNet(new CostFlow());
        due("run(0)", x.run(0), 0);
        due("a 25th NODE", x.node(0), NONE);
        due("an 81st ARC", x.arc(0, 1, 0, 1, 1), NONE);
        for (int k = 0; k < 80; k++) {
            due("a fourth PIECE", x.piece(k, 750001, 1000000), NONE);
        }
        due("told(0)", x.told(0), 24);
        due("told(1)", x.told(1), 80);
        due("told(2)", x.told(2), 240);
        due("told(6)", x.told(6), 0);
        due("cost()", x.cost(), 186000000);
        due("check()", x.check(), 1);
        due("run(1)", x.run(1), 0);
        due("cost()", x.cost(), 186000000);
    }

    static void terms_theFullNetByOneUnitTooMuch() {
        CostFlow x = fullNet(new CostFlow());
        due("supply", x.supply(11, 999999), 1000000);
        for (int way = 0; way < 3; way++) {
            due("together -1", x.run(way), 2);
            due("told(4)", x.told(4), 24);
        }
        due("supply", x.supply(10, 1000000), 1000000);
        due("supply", x.supply(12, -999999), -1000000);
        for (int way = 0; way < 3; way++) {
            due("together 0, but no ARC to where one lacks", x.run(way), 2);
            dueSet("NODE 0 has one too many", x, 0, 12);
        }
    }

    // ---- the 512 calls ----

    static void use_512CallsAreAnswered() {
        CostFlow x = fullNet(new CostFlow());
        due("assign(8)", x.assign(8), true);
        for (int pair = 0; pair < 64; pair++) {
            due("put", x.put(pair / 8, pair % 8, pair % 9), true);
        }
        for (int way = 0; way < 3; way++) {
            due("run", x.run(way), 0);
            due("cost()", x.cost(), 186000000);
        }
        for (int k = 0; k < 80; k++) {
            due("on(" + k + ")", x.on(k), k < 32 ? 0 : 250000);
        }
        int[] mates = {0, 1, 2, 3, 4, 5, 6, 7};
        long least = leastOfPairs(mates, 0, 0, 0);
        due("least(), call 496", x.least(), least);
        for (int i = 0; i < 8; i++) {
            due("mate(" + i + ")", x.mate(i), mates[i]);
        }
        int[] counts = {24, 80, 240, 0, 0, 8, 0};
        for (int what = 0; what < 7; what++) {
            due("told(" + what + ")", x.told(what), counts[what]);
        }
        due("check(), call 512", x.check(), 1);
    }

    /** The least sum when pair (i, j) costs (8 * i + j) % 9; mates has the lowest of those that have it. */
    private static long leastOfPairs(int[] mates, int i, int given, long sum) {
        if (i == 8) {
            return sum;
        }
        long least = Long.MAX_VALUE;
        int[] best = mates.clone();
        for (int j = 0; j < 8; j++) {
            if ((given >> j & 1) == 0) {
                int[] tried = mates.clone();
                tried[i] = j;
                long cost = leastOfPairs(tried, i + 1, given | 1 << j, sum + (8 * i + j) % 9);
                if (cost < least) {
                    least = cost;
                    best = tried;
                }
            }
        }
        System.arraycopy(best, 0, mates, 0, 8);
        return least;
    }

    static void use_the512thCallRuns() {
        for (int way = 0; way < 3; way++) {
            for (int state : new int[] {BEST, FALLS, CANT}) {
                CostFlow x = new CostFlow();
                for (int call = 1; call < 506; call++) {
                    int kind = call % 5;
                    due("a refused call", kind == 0 ? x.node(1000001) : kind == 1 ? x.arc(0, 0, 0, 0, 0)
                        : kind == 2 ? x.piece(0, 1, 1) : kind == 3 ? x.told(7) : x.run(3), NONE);
                }
                due("call 506", x.node(state == CANT ? 6 : 5), 0);
                due("call 507", x.node(state == CANT ? -6 : -5), 1);
                due("call 508", x.arc(0, 1, 0, 5, 2), 0);
                due("call 509", x.arc(1, 0, 0, ENDLESS, state == FALLS ? -1 : 1), 1);
                due("call 510", x.arc(0, 1, 0, state == FALLS ? ENDLESS : 0, 0), 2);
                due("call 511", x.run(way), state - BEST);
                due("call 512", state == BEST ? x.cost() : state == FALLS ? x.ring(0) : x.set(0),
                    state == BEST ? 10 : state == FALLS ? 1 : 0);
            }
        }
    }

    public static void main(String[] args) {
        runAll(StateBoundaryTest.class);
    }
}
