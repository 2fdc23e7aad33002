import java.util.Arrays;

/** Promises 7 to 15, and what "Terms" says of FLOWS, at their edges: each net by all three ways. */
public final class RunBoundaryTest extends Boundary {

    private static void dueRuns(String when, CostFlow x, int want) {
        for (int way = 0; way < 3; way++) {
            due(when + ": run(" + way + ")", x.run(way), want);
            due(when + ": told(6)", x.told(6), want);
        }
    }

    private static void dueFlow(String when, CostFlow x, long cost, long... on) {
        for (int way = 0; way < 3; way++) {
            due(when + ": run(" + way + ")", x.run(way), 0);
            due(when + ": cost()", x.cost(), cost);
            due(when + ": check()", x.check(), 1);
            for (int arc = 0; arc < on.length; arc++) {
                due(when + ": on(" + arc + ")", x.on(arc), on[arc]);
            }
            due(when + ": on(" + on.length + ")", x.on(on.length), NONE);
        }
    }

    private static void duePrices(String when, CostFlow x, long... prices) {
        for (int way = 0; way < 3; way++) {
            due(when + ": run(" + way + ")", x.run(way), 0);
            for (int node = 0; node < prices.length; node++) {
                due(when + ": potential(" + node + ")", x.potential(node), prices[node]);
            }
        }
    }

    private static void dueLimits(String when, CostFlow x, int arc, long least, long greatest) {
        due(when + ": span(" + arc + ", 0)", x.span(arc, 0), least);
        due(when + ": span(" + arc + ", 1)", x.span(arc, 1), greatest);
        long[] costs = {Long.MIN_VALUE, Long.MIN_VALUE + 1, -(1L << 32), NO_BOUND - 1, NO_BOUND, NO_SPAN, NO_SPAN + 1,
            -1000001, -1000000, -2, -1, 0, 1, 1000000, 1000001, 1L << 32, Long.MAX_VALUE - 1, Long.MAX_VALUE,
            least - 1, least, least + 1, greatest - 1, greatest, greatest + 1};
        for (long cost : costs) {
            boolean keeps = (least == NO_BOUND || least <= cost) && (greatest == NO_BOUND || cost <= greatest);
            due(when + ": keeps(" + arc + ", " + cost + ")", x.keeps(arc, cost), keeps);
        }
    }

    // ---- promise 7 ----

    static void promise07_anotherWayIsRefused() {
        for (int way : new int[] {-1, 3, -2, 4, Integer.MIN_VALUE, Integer.MAX_VALUE, 1 << 30, 256, 65536}) {
            for (int state : STATES) {
                CostFlow x = inState(state);
                String before = asked(x);
                due(name(state) + ": run(" + way + ")", x.run(way), NONE);
                due(name(state) + " after run(" + way + ")", asked(x), before);
            }
        }
    }

    static void promise07_theSameByEachWay() {
        for (int state : STATES) {
            CostFlow x = inState(state);
            x.run(0);
            String first = asked(x);
            x.run(1);
            due(name(state) + " by way 1", asked(x), first);
            x.run(2);
            due(name(state) + " by way 2", asked(x), first);
        }
    }

    static void promise07_nodesWithoutArcs() {
        dueRuns("one NODE", nodesOf(0), 0);
        duePrices("24 NODES", nodes(24), new long[24]);
        for (long supply : new long[] {-1000000, -1, 1, 1000000}) {
            CostFlow x = nodesOf(supply);
            dueRuns("one with " + supply, x, 2);
            dueSet("one with " + supply, x, 0);
        }
        CostFlow x = nodesOf(-1, 1);
        dueRuns("no ARC between them", x, 2);
        dueSet("no ARC between them", x, 1);
    }

    static void promise07_mostAtTheEdgeOfAFlow() {
        for (long units : new long[] {1, 5, 1000000}) {
            CostFlow x = nodesOf(units, -units);
            arc(x, 0, 1, 0, units - 1, 3);
            dueRuns("one too few", x, 2);
            dueSet("one too few", x, 0);
            arc(x, 0, 1, 0, 1, 4);
            dueFlow("just enough", x, 3 * (units - 1) + 4, units - 1, 1);
        }
    }

    static void promise07_lowAtTheEdgeOfAFlow() {
        CostFlow x = nodesOf(5, -5);
        arc(x, 0, 1, 5, 9, 3);
        dueFlow("just what must go", x, 15, 5);
        x = nodesOf(5, -5);
        arc(x, 0, 1, 6, 9, 3);
        dueRuns("one that must go is too many", x, 2);
        dueSet("one that must go is too many", x, 1);
        arc(x, 1, 0, 0, 1, 0);
        dueFlow("and it can come back", x, 18, 6, 1);
    }

    static void promise07_nothingMayGo() {
        CostFlow x = nodesOf(0, 0);
        arc(x, 0, 1, 0, 0, -1000000);
        arc(x, 1, 0, 0, ENDLESS, -1000000);
        dueFlow("MOST 0", x, 0, 0, 0);
        x.supply(0, 1);
        x.supply(1, -1);
        dueRuns("MOST 0 and a unit", x, 2);
        dueSet("MOST 0 and a unit", x, 0);
    }

    static void promise07_allSuppliesTogetherAreNot0() {
        for (long more : new long[] {-1, 1}) {
            CostFlow x = nodesOf(7, 0, -7 + more);
            arc(x, 0, 2, 0, ENDLESS, 1);
            arc(x, 2, 0, 0, ENDLESS, 1);
            dueRuns("by " + more, x, 2);
            dueSet("by " + more, x, 0, 1, 2);
            due("supply", x.supply(2, -7), -7 + more);
            dueRuns("together 0", x, 0);
            dueNoSet("together 0", x);
        }
    }

    static void promise07_aRingOfMinus1AndOf0() {
        long[][] costs = {{0, -1}, {-1, 0}, {5, -6}, {999999, -1000000}, {-1000000, 999999}, {-1000000, -1000000}};
        for (long[] cost : costs) {
            CostFlow x = nodes(2);
            arc(x, 1, 0, 0, ENDLESS, cost[0]);
            arc(x, 0, 1, 0, ENDLESS, cost[1]);
            dueRuns("falls", x, 1);
            dueRing("falls", x, 0, 1);
            dueNotBest("falls", x);
            dueNoSet("falls", x);
            due("price", x.price(0, -cost[1]), true);
            dueFlow("a sum of 0", x, 0, 0, 0);
            dueNoRing("a sum of 0", x);
        }
    }

    static void promise07_aRingThatIsNotEndless() {
        CostFlow x = nodes(2);
        arc(x, 0, 1, 0, 1000000, -1000000);
        arc(x, 1, 0, 0, ENDLESS, -1000000);
        dueFlow("up to MOST", x, -2000000000000L, 1000000, 1000000);
        dueNoRing("up to MOST", x);
    }

    static void promise07_aRingCountsUnitsBeyondAllMarks() {
        for (int pieces = 0; pieces <= 3; pieces++) {
            CostFlow x = nodes(2);
            arc(x, 0, 1, 0, ENDLESS, -8);
            arc(x, 1, 0, 0, ENDLESS, 0);
            for (int p = 1; p <= pieces; p++) {
                due("piece", x.piece(0, p == 3 ? 1000000 : p, p - 8), p);
            }
            dueRuns("falls beyond " + pieces, x, 1);
            dueRing("falls beyond " + pieces, x, 0, 1);
            due("price", x.price(1, 8 - pieces), true);
            long[] on = {0, 1, 2, 1000000};
            long[] cost = {0, -1, -2 - 1, -3 - 2 - 999998};
            dueFlow("0 beyond " + pieces, x, cost[pieces], on[pieces], on[pieces]);
            due("price", x.price(1, 7 - pieces), true);
            dueRuns("-1 beyond " + pieces, x, 1);
        }
    }

    static void promise07_fallsOnlyWhereThereIsAFlow() {
        CostFlow x = nodesOf(1, -1, 0, 0);
        arc(x, 2, 3, 0, ENDLESS, -1000000);
        arc(x, 3, 2, 0, ENDLESS, -1000000);
        dueRuns("a RING, but no FLOW", x, 2);
        dueSet("a RING, but no FLOW", x, 0);
        dueNoRing("a RING, but no FLOW", x);
        arc(x, 0, 1, 0, 1, 0);
        dueRuns("a FLOW, and a RING away from it", x, 1);
        dueRing("a FLOW, and a RING away from it", x, 0, 1);
        dueNoSet("a FLOW, and a RING away from it", x);
        x.supply(0, 2);
        dueRuns("together not 0", x, 2);
        dueSet("together not 0", x, 0, 1, 2, 3);
    }

    // ---- promise 8 ----

    static void promise08_0WhenItIsNotBest() {
        for (int state : new int[] {EMPTY, NOT_RUN, FALLS, CANT}) {
            due(name(state), inState(state).cost(), 0);
        }
        CostFlow x = inState(BEST);
        due("BEST", x.cost(), 16);
        x.supply(1, 0);
        due("gone", x.cost(), 0);
    }

    static void promise08_mayBe0OrBelowWhenBest() {
        for (long cost : new long[] {-1, 0, 1}) {
            CostFlow x = nodesOf(1, -1);
            arc(x, 0, 1, 0, 1, cost);
            dueFlow("COST " + cost, x, cost, 1);
        }
    }

    static void promise08_theGreatestAndTheLeastSum() {
        for (long sign = -1; sign <= 1; sign += 2) {
            CostFlow x = nodes(2);
            long[] on = new long[80];
            for (int k = 0; k < 80; k++) {
                arc(x, k & 1, 1 - (k & 1), 1000000, 1000000, sign * 1000000);
                on[k] = 1000000;
            }
            dueFlow("all at the edge", x, sign * 80000000000000L, on);
        }
    }

    // ---- promise 9 ----

    static void promise09_noneWhenItIsNotBest() {
        for (int state : new int[] {EMPTY, NOT_RUN, FALLS, CANT}) {
            CostFlow x = inState(state);
            for (int arc = 0; arc < 6; arc++) {
                due(name(state) + ": on(" + arc + ")", x.on(arc), NONE);
            }
        }
    }

    static void promise09_noSuchArc() {
        CostFlow x = inState(BEST);
        long[] on = {2, 2, 2, 0, 0};
        for (int arc = 0; arc < 5; arc++) {
            due("on(" + arc + ")", x.on(arc), on[arc]);
        }
        due("on(5)", x.on(5), NONE);
        for (int no : NO_NUMBERS) {
            due("on(" + no + ")", x.on(no), NONE);
        }
    }

    static void promise09_leastOnArc0ThenOnArc1() {
        for (int units = 0; units <= 12; units++) {
            CostFlow x = nodesOf(units, -units);
            for (int k = 0; k < 4; k++) {
                arc(x, 0, 1, 0, 3, 5);
            }
            long[] on = new long[4];
            for (int k = 0; k < 4; k++) {
                on[k] = Math.max(0, Math.min(3, units - 3 * (3 - k)));
            }
            dueFlow(units + " units", x, 5 * units, on);
        }
    }

    static void promise09_leastOnArc0ThoughMoreArcsAreUsed() {
        CostFlow x = nodesOf(2, 0, -2);
        arc(x, 0, 2, 1, 9, 5);
        arc(x, 0, 1, 0, 9, 2);
        arc(x, 1, 2, 0, 9, 3);
        dueFlow("LOW stays", x, 10, 1, 1, 1);
        due("price", x.price(2, 4), true);
        dueFlow("one more", x, 10, 2, 0, 0);
        due("price", x.price(2, 2), true);
        dueFlow("one less", x, 9, 1, 1, 1);
    }

    static void promise09_leastOnArc0WithPiecesOfOneCost() {
        CostFlow x = nodesOf(4, -4);
        arc(x, 0, 1, 0, 9, 5);
        arc(x, 0, 1, 0, 3, 5);
        due("piece", x.piece(0, 1, 5), 1);
        due("piece", x.piece(0, 2, 5), 2);
        due("piece", x.piece(1, 2, 5), 1);
        dueFlow("as without them", x, 20, 1, 3);
    }

    static void promise09_aRingOf0StaysEmpty() {
        CostFlow x = nodes(3);
        arc(x, 0, 1, 0, ENDLESS, 4);
        arc(x, 1, 2, 0, ENDLESS, -9);
        arc(x, 2, 0, 0, ENDLESS, 5);
        dueFlow("no LOW", x, 0, 0, 0, 0);
        arc(x, 0, 1, 2, 9, 4);
        dueFlow("LOW of ARC 3", x, 0, 0, 2, 2, 2);
    }

    static void promise09_mostOnAnEndlessArc() {
        CostFlow x = nodesOf(1000000, -1000000);
        for (int k = 0; k < 79; k++) {
            arc(x, 1, 0, 1000000, 1000000, 0);
        }
        long[] on = new long[80];
        Arrays.fill(on, 1000000);
        on[79] = 80000000;
        arc(x, 0, 1, 0, ENDLESS, 1000000);
        dueFlow("80 million", x, 80000000000000L, on);
    }

    // ---- promise 10 ----

    static void promise10_1WhenItIsNotBest() {
        for (int state : new int[] {EMPTY, NOT_RUN, FALLS, CANT}) {
            CostFlow x = inState(state);
            for (int node = 0; node < 4; node++) {
                due(name(state) + ": potential(" + node + ")", x.potential(node), 1);
            }
        }
    }

    static void promise10_noSuchNode() {
        CostFlow x = inState(BEST);
        long[] prices = {-5, -4, 0};
        for (int node = 0; node < 3; node++) {
            due("potential(" + node + ")", x.potential(node), prices[node]);
        }
        due("potential(3)", x.potential(3), 1);
        for (int no : NO_NUMBERS) {
            due("potential(" + no + ")", x.potential(no), 1);
        }
        x = nodes(24);
        due("run(0)", x.run(0), 0);
        due("potential(23)", x.potential(23), 0);
        due("potential(24)", x.potential(24), 1);
    }

    static void promise10_theLowestPrice() {
        CostFlow x = nodes(24);
        for (int k = 0; k < 23; k++) {
            arc(x, k, k + 1, 0, 1, -1000000);
        }
        long[] prices = new long[24];
        for (int k = 0; k < 24; k++) {
            prices[k] = -1000000L * k;
        }
        duePrices("a chain of 23", x, prices);
    }

    static void promise10_alongOnlyBelowMost() {
        for (int units = 0; units <= 3; units++) {
            CostFlow x = nodesOf(units, -units);
            arc(x, 0, 1, 0, 3, -7);
            duePrices(units + " of 3", x, 0, units < 3 ? -7 : 0);
        }
        CostFlow x = nodesOf(3, -3);
        arc(x, 0, 1, 0, ENDLESS, -7);
        duePrices("3 of ENDLESS", x, 0, -7);
    }

    static void promise10_againstOnlyAboveLow() {
        for (int units = 2; units <= 5; units++) {
            CostFlow x = nodesOf(units, -units);
            arc(x, 0, 1, 2, 5, 7);
            duePrices(units + " from LOW 2 on", x, units > 2 ? -7 : 0, 0);
        }
    }

    static void promise10_theNextAndTheLastUnitAtAMark() {
        long[] against = {0, -1, -1, -1, -4, -4, -9};
        for (int units = 0; units <= 6; units++) {
            CostFlow x = nodesOf(units, -units);
            arc(x, 0, 1, 0, 9, 1);
            x.piece(0, 3, 4);
            x.piece(0, 5, 9);
            duePrices(units + " units: the last", x, against[units], 0);
        }
        long[] along = {-9, -9, -9, -4, -4, -1, -1};
        for (int units = 0; units <= 6; units++) {
            CostFlow x = nodesOf(units, -units);
            arc(x, 0, 1, 0, 9, -9);
            x.piece(0, 3, -4);
            x.piece(0, 5, -1);
            duePrices(units + " units: the next", x, 0, along[units]);
        }
    }

    static void promise10_80ArcsThatGoBothWays() {
        CostFlow x = nodesOf(800000, -800000);
        for (int k = 0; k < 80; k++) {
            due("arc", x.arc(0, 1, 0, 20000, 3), k);
            due("piece", x.piece(k, 10000, 8), 1);
        }
        for (int way = 0; way < 3; way++) {
            due("run", x.run(way), 0);
            due("potential(0), by the last unit", x.potential(0), -3);
            due("potential(1)", x.potential(1), 0);
            due("check()", x.check(), 1);
            for (int k = 0; k < 80; k++) {
                due("on(" + k + ")", x.on(k), 10000);
            }
        }
    }

    // ---- promise 11 ----

    static void promise11_noneWhenItIsNotBest() {
        for (int state : new int[] {EMPTY, NOT_RUN, FALLS, CANT}) {
            due(name(state), inState(state).check(), NONE);
        }
        CostFlow x = inState(BEST);
        due("BEST", x.check(), 1);
        x.node(0);
        due("gone", x.check(), NONE);
    }

    static void promise11_thePricesProveIt() {
        CostFlow x = new CostFlow();
        dueRuns("the empty net", x, 0);
        due("the empty net", x.check(), 1);
        x = inState(BEST);
        String before = asked(x);
        due("check()", x.check(), 1);
        due("check() again", x.check(), 1);
        due("it changes nothing", asked(x), before);
    }

    // ---- promise 12 ----

    static void promise12_noneWithout() {
        dueNoRing("empty", inState(EMPTY));
        dueNoRing("not run", inState(NOT_RUN));
        dueNoRing("BEST", inState(BEST));
        dueNoRing("CAN'T", inState(CANT));
        dueRing("FALLS", inState(FALLS), 1, 4);
        CostFlow x = inState(FALLS);
        x.supply(0, 9);
        dueNoRing("gone", x);
    }

    static void promise12_twoArcsAreTheFewest() {
        CostFlow x = nodes(3);
        arc(x, 0, 1, 0, ENDLESS, -1000000);
        arc(x, 1, 2, 0, ENDLESS, -1000000);
        arc(x, 2, 0, 0, ENDLESS, -1000000);
        dueRuns("three", x, 1);
        dueRing("three", x, 0, 1, 2);
        arc(x, 2, 1, 0, ENDLESS, 1000000);
        dueRuns("two of 0", x, 1);
        dueRing("two of 0", x, 0, 1, 2);
        due("price", x.price(3, 999999), true);
        dueRuns("two of -1", x, 1);
        dueRing("two of -1", x, 1, 3);
    }

    static void promise12_through24Nodes() {
        for (int step : new int[] {1, 5, 7, 23}) {
            CostFlow x = nodes(24);
            for (int k = 0; k < 24; k++) {
                int from = k * step % 24;
                arc(x, from, (from + 1) % 24, 0, ENDLESS, k == 11 ? -24 : 1);
            }
            int[] ring = new int[24];
            for (int k = 0; k < 24; k++) {
                ring[k * step % 24] = k;
            }
            dueRuns("a sum of -1", x, 1);
            dueRing("a sum of -1, numbers by " + step, x, ring);
            due("price", x.price(11, -23), true);
            dueFlow("a sum of 0", x, 0, new long[24]);
            due("price", x.price(11, -1000000), true);
            dueRuns("far below 0", x, 1);
            due("told(3)", x.told(3), 24);
        }
    }

    static void promise12_ofTheFullNet() {
        CostFlow x = nodes(24);
        for (int k = 0; k < 80; k++) {
            int from = k % 24;
            long cost = k < 56 ? 10 : -5;
            due("arc", x.arc(from, (from + 1) % 24, 0, ENDLESS, cost), k);
            due("piece", x.piece(k, 1, cost), 1);
            due("piece", x.piece(k, 999999, cost + 1), 2);
            due("piece", x.piece(k, 1000000, k < 56 ? 13 : k == 79 ? -1 : 0), 3);
        }
        int[] ring = new int[24];
        for (int k = 0; k < 24; k++) {
            ring[k] = 56 + k;
        }
        dueRuns("the last 24 of 80", x, 1);
        dueRing("the last 24 of 80", x, ring);
    }

    static void promise12_ofTwoLongOnesTheOneThatComesFirst() {
        for (int other = 0; other < 24; other++) {
            CostFlow x = nodes(24);
            for (int k = 0; k < 24; k++) {
                arc(x, k, (k + 1) % 24, 0, ENDLESS, k == other ? 0 : -1);
            }
            arc(x, other, (other + 1) % 24, 0, ENDLESS, -1000000);
            dueRuns("the lower number, though it costs more", x, 1);
            dueRing("the lower number, though it costs more", x, upTo(24));
        }
    }

    static void promise12_fromTheLowestNumberOn() {
        CostFlow x = nodes(3);
        arc(x, 2, 0, 0, ENDLESS, 0);
        arc(x, 1, 2, 0, ENDLESS, 0);
        arc(x, 0, 1, 0, ENDLESS, -1);
        dueRuns("0, 2, 1", x, 1);
        dueRing("0, 2, 1", x, 0, 2, 1);
    }

    static void promise12_theLowestNumberThenTheNext() {
        CostFlow x = nodes(4);
        arc(x, 3, 0, 0, 5, -9);
        arc(x, 0, 1, 0, ENDLESS, 0);
        arc(x, 0, 2, 0, ENDLESS, 0);
        arc(x, 2, 0, 0, ENDLESS, -1);
        arc(x, 1, 0, 0, ENDLESS, -1);
        arc(x, 1, 0, 0, ENDLESS, -5);
        arc(x, 1, 0, 0, ENDLESS, 0);
        dueRuns("ARC 1 before 2, then 4 before 5", x, 1);
        dueRing("ARC 1 before 2, then 4 before 5", x, 1, 4);
        due("price", x.price(4, 0), true);
        dueRuns("ARC 4 has 0", x, 1);
        dueRing("ARC 4 has 0", x, 1, 5);
        due("price", x.price(5, 0), true);
        dueRuns("all with ARC 1 have 0", x, 1);
        dueRing("all with ARC 1 have 0", x, 2, 3);
    }

    static void promise12_throughNoNodeTwice() {
        CostFlow x = nodes(5);
        arc(x, 0, 1, 0, ENDLESS, 3);
        arc(x, 1, 0, 0, ENDLESS, -3);
        arc(x, 0, 2, 0, ENDLESS, 0);
        arc(x, 2, 3, 0, ENDLESS, 0);
        arc(x, 3, 4, 0, ENDLESS, 0);
        arc(x, 4, 0, 0, ENDLESS, -1);
        dueRuns("not through NODE 0 twice", x, 1);
        dueRing("not through NODE 0 twice", x, 2, 3, 4, 5);
    }

    static void promise12_onlyEndlessArcs() {
        CostFlow x = nodes(2);
        arc(x, 0, 1, 0, 1000000, -1000000);
        arc(x, 1, 0, 0, 1000000, -1000000);
        arc(x, 0, 1, 1000000, 1000000, -1000000);
        arc(x, 0, 1, 0, ENDLESS, 0);
        arc(x, 1, 0, 0, ENDLESS, -1);
        dueRuns("the last two", x, 1);
        dueRing("the last two", x, 3, 4);
    }

    // ---- promise 13 ----

    static void promise13_noneWithout() {
        dueNoSet("empty", inState(EMPTY));
        dueNoSet("not run", inState(NOT_RUN));
        dueNoSet("BEST", inState(BEST));
        dueNoSet("FALLS", inState(FALLS));
        dueSet("CAN'T", inState(CANT), 0);
        CostFlow x = inState(CANT);
        x.price(2, 5);
        dueNoSet("gone", x);
    }

    static void promise13_theGreatestExcess() {
        CostFlow x = nodesOf(5, 5, -5, -5);
        arc(x, 0, 2, 0, 3, 0);
        arc(x, 1, 3, 0, 4, 0);
        dueRuns("2 and 1 together", x, 2);
        dueSet("2 and 1 together", x, 0, 1);
        arc(x, 1, 2, 0, 1, 0);
        dueRuns("NODE 1 adds 0", x, 2);
        dueSet("NODE 1 adds 0", x, 0);
        arc(x, 0, 3, 0, 1, 0);
        arc(x, 0, 2, 0, 1, 0);
        dueFlow("an EXCESS of 0", x, 0, 3, 4, 1, 1, 1);
    }

    static void promise13_theOneThatLiesInAllOthers() {
        CostFlow x = nodesOf(3, 0, 0, -3);
        arc(x, 0, 1, 0, 2, 0);
        arc(x, 1, 2, 0, 2, 0);
        arc(x, 2, 3, 0, 2, 0);
        dueRuns("{0}, not {0, 1}", x, 2);
        dueSet("{0}, not {0, 1}", x, 0);
        x = nodesOf(-3, 0, 0, 3);
        arc(x, 3, 2, 0, 2, 0);
        arc(x, 2, 1, 0, 2, 0);
        arc(x, 1, 0, 0, 2, 0);
        dueRuns("{3}, not {2, 3}", x, 2);
        dueSet("{3}, not {2, 3}", x, 3);
        x = nodesOf(3, 0, 0, -3);
        arc(x, 0, 1, 0, 3, 0);
        arc(x, 1, 2, 0, 2, 0);
        arc(x, 2, 3, 0, 2, 0);
        dueRuns("{0, 1}, not {0}", x, 2);
        dueSet("{0, 1}, not {0}", x, 0, 1);
    }

    static void promise13_withAnEndlessArcOutOfItItIsNone() {
        CostFlow x = nodesOf(1000000, 0, 0, -1000000);
        arc(x, 0, 1, 0, ENDLESS, 0);
        arc(x, 1, 3, 0, 999999, 0);
        arc(x, 3, 2, 0, ENDLESS, 0);
        dueRuns("{0, 1}", x, 2);
        dueSet("{0, 1}", x, 0, 1);
        arc(x, 1, 2, 0, ENDLESS, 0);
        dueRuns("{0, 1, 2}", x, 2);
        dueSet("{0, 1, 2}", x, 0, 1, 2);
        arc(x, 2, 3, 0, 1, 0);
        dueRuns("an EXCESS of 0", x, 0);
        dueNoSet("an EXCESS of 0", x);
    }

    static void promise13_lowsIntoItAndMostsOutOfIt() {
        CostFlow x = nodesOf(0, 0, 0);
        arc(x, 0, 1, 4, 9, 0);
        arc(x, 1, 2, 0, 3, 0);
        arc(x, 2, 0, 0, 9, 0);
        dueRuns("4 into NODE 1, 3 out", x, 2);
        dueSet("4 into NODE 1, 3 out", x, 1);
        arc(x, 1, 0, 0, 1, 0);
        dueFlow("4 into NODE 1, 4 out", x, 0, 4, 3, 3, 1);
    }

    static void promise13_theGreatestExcessThatMayBe() {
        CostFlow x = nodesOf(-1000000, 1000000);
        for (int k = 0; k < 80; k++) {
            arc(x, 0, 1, 1000000, 1000000, -1000000);
        }
        dueRuns("81 million", x, 2);
        dueSet("81 million", x, 1);
    }

    static void promise13_byNumbers() {
        long[] supplies = new long[24];
        for (int node : new int[] {23, 4, 11, 17}) {
            supplies[node] = 1;
        }
        supplies[9] = -4;
        CostFlow x = nodesOf(supplies);
        for (int node : new int[] {23, 4, 11, 17}) {
            arc(x, node, 9, 0, 0, 0);
        }
        dueRuns("four of 24", x, 2);
        dueSet("four of 24", x, 4, 11, 17, 23);
    }

    static void promise13_allButOneOf24() {
        long[] supplies = new long[24];
        Arrays.fill(supplies, 1);
        supplies[23] = -23;
        CostFlow x = nodesOf(supplies);
        dueRuns("23 of 24", x, 2);
        dueSet("23 of 24", x, upTo(23));
    }

    static void promise13_allNodesWhenTogetherNot0() {
        for (long supply : new long[] {-1000000, 1000000}) {
            long[] supplies = new long[24];
            Arrays.fill(supplies, supply);
            CostFlow x = nodesOf(supplies);
            dueRuns("24 million", x, 2);
            dueSet("24 million", x, upTo(24));
        }
        CostFlow x = nodesOf(1000000, 0, -999999, 0);
        arc(x, 1, 3, 0, ENDLESS, -1);
        arc(x, 3, 1, 0, ENDLESS, -1);
        dueRuns("though {0} has more EXCESS", x, 2);
        dueSet("though {0} has more EXCESS", x, 0, 1, 2, 3);
    }

    // ---- promise 14 and 15 ----

    static void promise14_noneWhenItIsNotBest() {
        for (int state : new int[] {EMPTY, NOT_RUN, FALLS, CANT}) {
            CostFlow x = inState(state);
            for (int arc = -1; arc < 6; arc++) {
                due(name(state) + ": span(" + arc + ", 0)", x.span(arc, 0), NO_SPAN);
                due(name(state) + ": span(" + arc + ", 1)", x.span(arc, 1), NO_SPAN);
            }
        }
    }

    static void promise14_noSuchArcOrEnd() {
        CostFlow x = inState(BEST);
        due("span(5, 0)", x.span(5, 0), NO_SPAN);
        due("span(5, 1)", x.span(5, 1), NO_SPAN);
        for (int no : NO_NUMBERS) {
            due("span(" + no + ", 0)", x.span(no, 0), NO_SPAN);
            due("span(" + no + ", 1)", x.span(no, 1), NO_SPAN);
            due("span(2, " + no + ")", x.span(2, no), NO_SPAN);
            due("span(" + no + ", " + no + ")", x.span(no, no), NO_SPAN);
        }
        due("span(2, 2)", x.span(2, 2), NO_SPAN);
        due("span(2, 0)", x.span(2, 0), 3);
        due("span(2, 1)", x.span(2, 1), 5);
    }

    static void promise14_withPieces() {
        CostFlow x = inState(BEST);
        for (int arc = 0; arc < 2; arc++) {
            due("span(" + arc + ", 0)", x.span(arc, 0), NO_SPAN);
            due("span(" + arc + ", 1)", x.span(arc, 1), NO_SPAN);
        }
        due("without: span(3, 0)", x.span(3, 0) != NO_SPAN, true);
    }

    static void promise14_atLowThereIsNoGreatestAtMostNoLeast() {
        for (int units = 1; units <= 5; units++) {
            CostFlow x = nodesOf(units, -units);
            arc(x, 0, 1, 1, 3, 2);
            arc(x, 0, 1, 0, 2, 4);
            long onTwo = Math.max(0, units - 3);
            dueFlow(units + " units", x, 2 * (units - onTwo) + 4 * onTwo, units - onTwo, onTwo);
            boolean againstOne = units > 1;
            boolean alongTwo = units < 5;
            boolean alongOne = units < 3;
            boolean againstTwo = units > 3;
            dueLimits(units + " units", x, 0, alongOne && againstTwo ? 4 : NO_BOUND, againstOne && alongTwo ? 4 : NO_BOUND);
            dueLimits(units + " units", x, 1, againstOne && alongTwo ? 2 : NO_BOUND, againstTwo && alongOne ? 2 : NO_BOUND);
        }
    }

    static void promise14_bothBounds() {
        CostFlow x = nodesOf(3, -3);
        arc(x, 0, 1, 0, 5, 2);
        arc(x, 0, 1, 0, 5, 1);
        due("piece", x.piece(1, 2, 4), 1);
        dueFlow("1 and 2", x, 4, 1, 2);
        dueLimits("1 and 2", x, 0, 1, 4);
        due("price", x.price(0, 1), true);
        dueFlow("at the least the same is least", x, 3, 1, 2);
        due("price", x.price(0, 4), true);
        due("run(0)", x.run(0), 0);
        due("at the greatest it costs the same", x.cost(), 6);
        due("but another has less on ARC 0", x.on(0), 0);
    }

    static void promise14_noBoundWithoutAnotherWay() {
        for (int units = 0; units <= 3; units++) {
            CostFlow x = nodesOf(units, -units);
            arc(x, 0, 1, 0, 3, -5);
            dueRuns("one ARC alone", x, 0);
            dueLimits("one ARC alone", x, 0, NO_BOUND, NO_BOUND);
        }
        CostFlow x = nodes(2);
        arc(x, 0, 1, 7, 7, 5);
        arc(x, 1, 0, 0, 9, 5);
        dueRuns("LOW is MOST", x, 0);
        dueLimits("LOW is MOST", x, 0, NO_BOUND, NO_BOUND);
    }

    static void promise14_anEndlessArcHasALeast() {
        CostFlow x = nodesOf(2, -2);
        arc(x, 0, 1, 0, ENDLESS, 3);
        arc(x, 1, 0, 0, ENDLESS, 4);
        dueFlow("2 on ARC 0", x, 6, 2, 0);
        dueLimits("2 on ARC 0", x, 0, -4, NO_BOUND);
        dueLimits("2 on ARC 0", x, 1, -3, NO_BOUND);
        due("price", x.price(1, -3), true);
        dueRuns("at the least", x, 0);
        due("price", x.price(1, -4), true);
        dueRuns("below it", x, 1);
    }

    static void promise14_limitsBeyondWhatACostMayBe() {
        CostFlow x = nodes(24);
        for (int k = 0; k < 23; k++) {
            arc(x, k, k + 1, 0, ENDLESS, 1000000);
        }
        arc(x, 0, 23, 0, 5, 0);
        x.supply(0, 2);
        x.supply(23, -2);
        dueRuns("a chain of 23 at 1000000", x, 0);
        dueLimits("a chain of 23 at 1000000", x, 23, NO_BOUND, 23000000);
        for (int k = 0; k < 23; k++) {
            due("price", x.price(k, -1000000), true);
        }
        dueRuns("a chain of 23 at -1000000", x, 0);
        dueLimits("a chain of 23 at -1000000", x, 23, -23000000, NO_BOUND);
    }

    static void promise14_theLastOf80() {
        CostFlow x = nodesOf(1, -1);
        for (int k = 0; k < 80; k++) {
            arc(x, 0, 1, 0, 1, k == 79 ? 1 : 1000000);
        }
        dueRuns("the last one alone", x, 0);
        due("span(79, 1)", x.span(79, 1), 1000000);
        due("span(79, 0)", x.span(79, 0), NO_BOUND);
        due("span(78, 0)", x.span(78, 0), 1);
        due("span(80, 0)", x.span(80, 0), NO_SPAN);
        due("span(80, 1)", x.span(80, 1), NO_SPAN);
        due("keeps(79, 1000000)", x.keeps(79, 1000000), true);
        due("keeps(79, 1000001)", x.keeps(79, 1000001), false);
        due("keeps(80, 1)", x.keeps(80, 1), false);
    }

    static void promise15_falseWhereSpanHasNone() {
        for (int state : STATES) {
            CostFlow x = inState(state);
            for (int arc : new int[] {-1, 0, 1, 5, Integer.MIN_VALUE, Integer.MAX_VALUE}) {
                for (long cost : new long[] {Long.MIN_VALUE, -1, 0, 1, 2, 3, Long.MAX_VALUE}) {
                    due(name(state) + ": keeps(" + arc + ", " + cost + ")", x.keeps(arc, cost), false);
                }
            }
        }
        for (int state : new int[] {NOT_RUN, FALLS, CANT}) {
            due(name(state) + ": keeps(2, 5)", inState(state).keeps(2, 5), false);
        }
        due("BEST: keeps(2, 5)", inState(BEST).keeps(2, 5), true);
    }

    static void promise15_atBothLimitsAndJustBeyond() {
        CostFlow x = inState(BEST);
        due("keeps(2, 2)", x.keeps(2, 2), false);
        due("keeps(2, 3)", x.keeps(2, 3), true);
        due("keeps(2, 5)", x.keeps(2, 5), true);
        due("keeps(2, 6)", x.keeps(2, 6), false);
        dueLimits("any long", x, 2, 3, 5);
    }

    static void promise15_theCostItHasKeeps() {
        CostFlow x = inState(BEST);
        due("ARC 2", x.keeps(2, 5), true);
        due("ARC 3", x.keeps(3, 0), true);
        due("ARC 4", x.keeps(4, 0), true);
        due("told(6) after it", x.told(6), 0);
    }

    public static void main(String[] args) {
        runAll(RunBoundaryTest.class);
    }
}
