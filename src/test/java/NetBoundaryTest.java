/** Promises 1 to 6 at their edges: the last value that is taken and the first that is refused, on each side. */
public final class NetBoundaryTest extends Boundary {

    // ---- promise 1 ----

    static void promise01_aNewObjectHasNothing() {
        dueNothing("new", new CostFlow());
    }

    static void promise01_aNewObjectHasNothingOfAnother() {
        CostFlow other = inState(FALLS);
        dueNothing("new beside another", new CostFlow());
        due("the other's NODES", other.told(0), 3);
        dueRing("the other", other, 1, 4);
    }

    static void promise01_aNewObjectAnswersAnyNumber() {
        for (int k : NO_NUMBERS) {
            CostFlow x = new CostFlow();
            due("on", x.on(k), NONE);
            due("potential", x.potential(k), 1);
            due("ring", x.ring(k), NONE);
            due("set", x.set(k), NONE);
            due("mate", x.mate(k), NONE);
            due("span", x.span(k, k), NO_SPAN);
            due("keeps", x.keeps(k, k), false);
            due("arc", x.arc(k, k, k, k, k), NONE);
            due("piece", x.piece(k, k, k), NONE);
            due("supply", x.supply(k, 0), NO_SUPPLY);
            due("price", x.price(k, 0), false);
            due("put", x.put(k, k, 0), false);
            dueNothing("after them", x);
        }
    }

    static void promise01_theEmptyNetIsBest() {
        for (int way = 0; way < 3; way++) {
            CostFlow x = new CostFlow();
            due("run", x.run(way), 0);
            due("told(6)", x.told(6), 0);
            due("cost()", x.cost(), 0);
            due("check()", x.check(), 1);
            due("on(0)", x.on(0), NONE);
            due("potential(0)", x.potential(0), 1);
            due("span(0, 0)", x.span(0, 0), NO_SPAN);
            due("keeps(0, 0)", x.keeps(0, 0), false);
            dueNoRing("no ring", x);
            dueNoSet("no set", x);
            dueNoPairing("no assignment", x);
        }
    }

    // ---- promise 2 ----

    static void promise02_numbersAreFrom0To23() {
        CostFlow x = new CostFlow();
        for (int k = 0; k < 24; k++) {
            due("told(0)", x.told(0), k);
            due("node", x.node(k), k);
        }
        due("told(0)", x.told(0), 24);
        for (int k = 0; k < 24; k++) {
            due("what NODE " + k + " had", x.supply(k, 0), k);
        }
    }

    static void promise02_a25thIsRefused() {
        CostFlow x = nodes(24);
        for (long supply : TAKEN) {
            due("node(" + supply + ")", x.node(supply), NONE);
        }
        for (long supply : REFUSED) {
            due("node(" + supply + ")", x.node(supply), NONE);
        }
        due("told(0)", x.told(0), 24);
        due("a 25th can't be named", x.supply(24, 0), NO_SUPPLY);
        for (int k = 0; k < 24; k++) {
            due("what NODE " + k + " had", x.supply(k, 1), 0);
        }
    }

    static void promise02_supplyFromTheLeastToTheGreatest() {
        for (long supply : TAKEN) {
            CostFlow x = nodes(1);
            due("node(" + supply + ")", x.node(supply), 1);
            due("what it had", x.supply(1, 0), supply);
        }
    }

    static void promise02_supplyBelowTheLeastOrAboveTheGreatest() {
        for (long supply : REFUSED) {
            CostFlow x = nodes(1);
            due("node(" + supply + ")", x.node(supply), NONE);
            due("told(0)", x.told(0), 1);
            due("the next one's number", x.node(5), 1);
            due("what it had", x.supply(1, 0), 5);
        }
    }

    // ---- promise 3 ----

    static void promise03_fromAndToAreNodes() {
        for (int count : new int[] {0, 1, 2, 3, 23, 24}) {
            CostFlow x = nodes(count);
            due("from one beyond", x.arc(count, 0, 0, 1, 1), NONE);
            due("to one beyond", x.arc(0, count, 0, 1, 1), NONE);
            for (int no : NO_NUMBERS) {
                due("from " + no, x.arc(no, 0, 0, 1, 1), NONE);
                due("to " + no, x.arc(0, no, 0, 1, 1), NONE);
                due("both " + no, x.arc(no, no, 0, 1, 1), NONE);
            }
            due("told(1)", x.told(1), 0);
            if (count > 1) {
                due("from the last to the first", x.arc(count - 1, 0, 0, 1, 1), 0);
                due("from the first to the last", x.arc(0, count - 1, 0, 1, 1), 1);
            }
        }
    }

    static void promise03_bothTheSame() {
        CostFlow x = nodes(24);
        for (int node = 0; node < 24; node++) {
            due("arc(" + node + ", " + node + ")", x.arc(node, node, 0, 1, 1), NONE);
        }
        due("told(1)", x.told(1), 0);
        due("two between the same", x.arc(0, 1, 0, 1, 1), 0);
        due("two between the same", x.arc(0, 1, 0, 1, 1), 1);
    }

    static void promise03_numbersAreFrom0To79() {
        CostFlow x = nodes(2);
        for (int k = 0; k < 80; k++) {
            due("told(1)", x.told(1), k);
            due("arc", x.arc(k & 1, 1 - (k & 1), 0, k, 1), k);
        }
        due("told(1)", x.told(1), 80);
        due("the last takes a PIECE", x.piece(79, 1, 1), 1);
        due("run(0)", x.run(0), 0);
        due("on(79)", x.on(79), 0);
        due("on(80)", x.on(80), NONE);
    }

    static void promise03_an81stIsRefused() {
        CostFlow x = nodes(2);
        for (int k = 0; k < 80; k++) {
            arc(x, 0, 1, 0, 1, 1);
        }
        due("an 81st", x.arc(0, 1, 0, 1, 1), NONE);
        due("an 81st, ENDLESS", x.arc(1, 0, 0, ENDLESS, -1000000), NONE);
        due("told(1)", x.told(1), 80);
        due("run(0)", x.run(0), 0);
        due("an 81st after the run", x.arc(0, 1, 0, 1, 1), NONE);
        due("told(6)", x.told(6), 0);
        due("piece of it", x.piece(80, 1, 1), NONE);
        due("price of it", x.price(80, 1), false);
    }

    static void promise03_lowFrom0To1000000() {
        for (long low : new long[] {0, 1, 999999, 1000000}) {
            CostFlow x = nodes(2);
            due("LOW " + low, x.arc(0, 1, low, ENDLESS, 1), 0);
            due("back", x.arc(1, 0, 0, ENDLESS, 0), 1);
            due("run(0)", x.run(0), 0);
            due("as little as may be", x.on(0), low);
        }
    }

    static void promise03_lowBelow0OrAbove1000000() {
        CostFlow x = nodes(2);
        long[] lows = {-1, -2, -3, -1000000};
        for (long low : lows) {
            due("LOW " + low, x.arc(0, 1, low, ENDLESS, 1), NONE);
            due("LOW " + low + ", MOST as well", x.arc(0, 1, low, low, 1), NONE);
            due("LOW " + low + ", MOST 5", x.arc(0, 1, low, 5, 1), NONE);
        }
        for (long low : REFUSED) {
            due("LOW " + low, x.arc(0, 1, low, ENDLESS, 1), NONE);
            due("LOW " + low + ", MOST as well", x.arc(0, 1, low, low, 1), NONE);
            due("LOW " + low + ", MOST 1000000", x.arc(0, 1, low, 1000000, 1), NONE);
        }
        due("told(1)", x.told(1), 0);
    }

    static void promise03_mostFromLowTo1000000() {
        for (long low : new long[] {0, 1, 999999, 1000000}) {
            for (long most : new long[] {low, Math.min(low + 1, 1000000), 1000000}) {
                CostFlow x = nodes(2);
                due("MOST " + most, x.arc(0, 1, low, most, -1), 0);
                due("back", x.arc(1, 0, 0, ENDLESS, 0), 1);
                due("run(0)", x.run(0), 0);
                due("as much as may be", x.on(0), most);
            }
        }
    }

    static void promise03_mostBelowLowOrAbove1000000() {
        CostFlow x = nodes(2);
        for (long low : new long[] {1, 2, 999999, 1000000}) {
            due("MOST below LOW " + low, x.arc(0, 1, low, low - 1, 1), NONE);
            due("MOST 0 below LOW " + low, x.arc(0, 1, low, 0, 1), NONE);
            due("MOST -1 below LOW " + low, x.arc(0, 1, low, -1, 1), NONE);
        }
        for (long most : REFUSED) {
            due("MOST " + most, x.arc(0, 1, 0, most, 1), NONE);
            due("MOST " + most, x.arc(0, 1, 1000000, most, 1), NONE);
        }
        due("told(1)", x.told(1), 0);
    }

    static void promise03_mostIsEndlessAtMinus2Alone() {
        CostFlow x = nodes(2);
        for (long most : new long[] {-1, -3, -4, 4294967294L, -4294967298L}) {
            due("MOST " + most, x.arc(0, 1, 0, most, -1), NONE);
        }
        for (long low : new long[] {0, 1, 1000000}) {
            arc(x, 0, 1, low, ENDLESS, 0);
        }
        due("back", x.arc(1, 0, 0, ENDLESS, -1), 3);
        due("run(0)", x.run(0), 1);
        dueRing("ENDLESS is held", x, 0, 3);
    }

    static void promise03_costFromTheLeastToTheGreatest() {
        for (long cost : TAKEN) {
            CostFlow x = nodesOf(1, -1);
            due("COST " + cost, x.arc(0, 1, 0, 1, cost), 0);
            due("run(0)", x.run(0), 0);
            due("cost()", x.cost(), cost);
        }
    }

    static void promise03_costBelowTheLeastOrAboveTheGreatest() {
        CostFlow x = nodes(2);
        for (long cost : REFUSED) {
            due("COST " + cost, x.arc(0, 1, 0, 1, cost), NONE);
            due("COST " + cost + " of ENDLESS", x.arc(0, 1, 0, ENDLESS, cost), NONE);
        }
        due("told(1)", x.told(1), 0);
        due("the first one's number", x.arc(0, 1, 0, 1, 1), 0);
    }

    static void promise03_allWrongAtOnce() {
        CostFlow x = nodes(2);
        due("all wrong", x.arc(-1, -1, -1, -3, 1000001), NONE);
        due("all wrong", x.arc(Integer.MIN_VALUE, Integer.MIN_VALUE, Long.MIN_VALUE, Long.MIN_VALUE, Long.MIN_VALUE), NONE);
        due("all wrong", x.arc(Integer.MAX_VALUE, Integer.MAX_VALUE, Long.MAX_VALUE, Long.MAX_VALUE, Long.MAX_VALUE), NONE);
        due("told(1)", x.told(1), 0);
    }

    // ---- promise 4 ----

    private static CostFlow oneArc(long low, long most, long cost) {
        CostFlow x = nodes(2);
        due("arc", x.arc(0, 1, low, most, cost), 0);
        return x;
    }

    static void promise04_ofAnArcThatIs() {
        CostFlow x = oneArc(0, 9, 0);
        due("one beyond", x.piece(1, 5, 5), NONE);
        for (int no : NO_NUMBERS) {
            due("ARC " + no, x.piece(no, 5, 5), NONE);
        }
        due("told(2)", x.told(2), 0);
        due("ARC 0", x.piece(0, 5, 5), 1);
    }

    static void promise04_markAboveLow() {
        for (long low : new long[] {0, 1, 7, 999998}) {
            CostFlow x = oneArc(low, 1000000, 0);
            due("at LOW " + low, x.piece(0, low, 0), NONE);
            due("below LOW " + low, x.piece(0, low - 1, 0), NONE);
            due("told(2)", x.told(2), 0);
            due("just above LOW " + low, x.piece(0, low + 1, 0), 1);
        }
    }

    static void promise04_markBelowMost() {
        for (long most : new long[] {2, 3, 10, 999999, 1000000}) {
            CostFlow x = oneArc(0, most, 0);
            due("at MOST " + most, x.piece(0, most, 0), NONE);
            due("above MOST " + most, x.piece(0, most + 1, 0), NONE);
            due("told(2)", x.told(2), 0);
            due("just below MOST " + most, x.piece(0, most - 1, 0), 1);
        }
    }

    static void promise04_noMarkBetweenLowAndMost() {
        for (long low : new long[] {0, 1, 999999}) {
            for (long most = low; most <= low + 1; most++) {
                CostFlow x = oneArc(low, most, 0);
                for (long mark = low - 2; mark <= most + 2; mark++) {
                    due("MARK " + mark + " of " + low + " .. " + most, x.piece(0, mark, 0), NONE);
                }
                due("told(2)", x.told(2), 0);
            }
        }
    }

    static void promise04_markOfEndlessUpTo1000000() {
        CostFlow x = oneArc(0, ENDLESS, 0);
        due("1000001", x.piece(0, 1000001, 0), NONE);
        due("999999", x.piece(0, 999999, 0), 1);
        due("1000001 again", x.piece(0, 1000001, 0), NONE);
        due("1000000", x.piece(0, 1000000, 0), 2);
        due("1000000 again", x.piece(0, 1000000, 0), NONE);
        due("1000001 after it", x.piece(0, 1000001, 0), NONE);
        due("told(2)", x.told(2), 2);
    }

    static void promise04_markOfEndlessAboveLow() {
        CostFlow x = oneArc(999999, ENDLESS, 0);
        due("at LOW", x.piece(0, 999999, 0), NONE);
        due("above LOW", x.piece(0, 1000000, 0), 1);
        x = oneArc(1000000, ENDLESS, 0);
        due("at LOW", x.piece(0, 1000000, 0), NONE);
        due("above LOW, above 1000000", x.piece(0, 1000001, 0), NONE);
        x = oneArc(0, ENDLESS, 0);
        due("at LOW 0", x.piece(0, 0, 0), NONE);
        due("below LOW 0", x.piece(0, -1, 0), NONE);
        due("ENDLESS is no MARK", x.piece(0, ENDLESS, 0), NONE);
        due("above LOW 0", x.piece(0, 1, 0), 1);
    }

    static void promise04_markAnyLong() {
        CostFlow bounded = oneArc(0, 1000000, 0);
        CostFlow endless = oneArc(0, ENDLESS, 0);
        for (long mark : REFUSED) {
            due("MARK " + mark, bounded.piece(0, mark, 0), NONE);
            due("MARK " + mark + " of ENDLESS", endless.piece(0, mark, 0), NONE);
        }
        due("told(2)", bounded.told(2), 0);
        due("told(2) of ENDLESS", endless.told(2), 0);
    }

    static void promise04_marksRise() {
        CostFlow x = oneArc(2, 100, 0);
        due("first", x.piece(0, 10, 0), 1);
        due("at the first", x.piece(0, 10, 0), NONE);
        due("below the first", x.piece(0, 9, 0), NONE);
        due("just above the first", x.piece(0, 11, 0), 2);
        due("at the second", x.piece(0, 11, 0), NONE);
        due("at the first", x.piece(0, 10, 0), NONE);
        due("just above the second", x.piece(0, 12, 0), 3);
        due("told(2)", x.told(2), 3);
    }

    static void promise04_costsDoNotFall() {
        for (long cost : new long[] {-1000000, -999999, -5, 0, 5, 999999}) {
            CostFlow x = oneArc(0, 10, cost);
            due("below " + cost, x.piece(0, 1, cost - 1), NONE);
            due("as before", x.piece(0, 1, cost), 1);
            due("below the first PIECE's", x.piece(0, 2, cost - 1), NONE);
            due("one more", x.piece(0, 2, cost + 1), 2);
            due("as the ARC's", x.piece(0, 3, cost), NONE);
            due("as before", x.piece(0, 3, cost + 1), 3);
            due("told(2)", x.told(2), 3);
        }
    }

    static void promise04_costUpTo1000000() {
        for (long cost : new long[] {-1000000, 0, 999999, 1000000}) {
            CostFlow x = oneArc(0, 10, cost);
            due("1000001", x.piece(0, 1, 1000001), NONE);
            due("1000000", x.piece(0, 1, 1000000), 1);
            due("1000001 after it", x.piece(0, 2, 1000001), NONE);
            due("999999 after it", x.piece(0, 2, 999999), NONE);
            due("1000000 after it", x.piece(0, 2, 1000000), 2);
        }
    }

    static void promise04_costAnyLong() {
        for (long cost : new long[] {-1000000, 0, 1000000}) {
            CostFlow x = oneArc(0, 10, cost);
            for (long refused : REFUSED) {
                due("COST " + refused, x.piece(0, 1, refused), NONE);
            }
            due("told(2)", x.told(2), 0);
        }
    }

    static void promise04_costAfterAnotherPrice() {
        CostFlow x = oneArc(0, 10, 5);
        due("price(0, 8)", x.price(0, 8), true);
        due("below it", x.piece(0, 1, 7), NONE);
        due("price(0, -8)", x.price(0, -8), true);
        due("below it", x.piece(0, 1, -9), NONE);
        due("as it", x.piece(0, 1, -8), 1);
    }

    static void promise04_threeAndNoFourth() {
        CostFlow x = oneArc(0, 100, 0);
        arc(x, 0, 1, 0, ENDLESS, 0);
        for (int k = 1; k <= 3; k++) {
            due("PIECE of ARC 0", x.piece(0, 10 * k, k), k);
        }
        due("a fourth that fits", x.piece(0, 40, 4), NONE);
        due("a fourth at the end", x.piece(0, 99, 1000000), NONE);
        for (int k = 1; k <= 3; k++) {
            due("PIECE of ARC 1", x.piece(1, 999997 + k, k), k);
        }
        due("a fourth of ARC 1", x.piece(1, 1000000, 4), NONE);
        due("told(2)", x.told(2), 6);
    }

    static void promise04_threeOfEachOf80() {
        CostFlow x = nodes(2);
        for (int k = 0; k < 80; k++) {
            due("arc", x.arc(0, 1, 0, 4, 0), k);
        }
        for (int k = 79; k >= 0; k--) {
            for (int p = 1; p <= 3; p++) {
                due("piece", x.piece(k, p, p), p);
            }
        }
        due("told(2)", x.told(2), 240);
        due("a fourth of ARC 0", x.piece(0, 4, 4), NONE);
        due("a fourth of ARC 79", x.piece(79, 4, 4), NONE);
    }

    static void promise04_beyondTheMarkIsTheUnitAfterIt() {
        long[] due = {3, 6, 9, 14, 19, 30, 41, 1041, 2041};
        for (int units = 1; units <= 9; units++) {
            CostFlow x = nodesOf(units, -units);
            arc(x, 0, 1, 0, ENDLESS, 3);
            x.piece(0, 3, 5);
            x.piece(0, 5, 11);
            x.piece(0, 7, 1000);
            due("run", x.run(units % 3), 0);
            due("cost of " + units, x.cost(), due[units - 1]);
        }
    }

    static void promise04_beyondTheLastMarkThatMayBe() {
        CostFlow x = nodesOf(1000000, -1000000);
        arc(x, 0, 1, 0, 1000000, -1000000);
        due("MARK 999999", x.piece(0, 999999, 1000000), 1);
        due("run(0)", x.run(0), 0);
        due("the last unit alone costs more", x.cost(), -999999000000L + 1000000);
        x = nodesOf(1000000, 1000000, -1000000, -1000000);
        arc(x, 0, 2, 0, ENDLESS, 7);
        arc(x, 1, 0, 0, ENDLESS, 0);
        arc(x, 2, 3, 0, ENDLESS, 0);
        due("MARK 1000000", x.piece(0, 1000000, 9), 1);
        due("run(0)", x.run(0), 0);
        due("a million at each", x.cost(), 16000000);
    }

    static void promise04_lowUnitsCostAsBeforeTheMark() {
        CostFlow x = nodesOf(5, -5);
        arc(x, 0, 1, 5, 9, 4);
        due("just above LOW", x.piece(0, 6, 100), 1);
        due("run(0)", x.run(0), 0);
        due("cost()", x.cost(), 20);
        x.supply(0, 7);
        x.supply(1, -7);
        due("run(0)", x.run(0), 0);
        due("cost()", x.cost(), 124);
    }

    // ---- promise 5 ----

    static void promise05_ofANodeThatIs() {
        for (int count : new int[] {0, 1, 24}) {
            CostFlow x = nodes(count);
            due("one beyond", x.supply(count, 0), NO_SUPPLY);
            for (int no : NO_NUMBERS) {
                due("NODE " + no, x.supply(no, 0), NO_SUPPLY);
            }
            if (count > 0) {
                due("the first", x.supply(0, 7), 0);
                due("the last", x.supply(count - 1, 8), count == 1 ? 7 : 0);
            }
        }
    }

    static void promise05_fromTheLeastToTheGreatest() {
        CostFlow x = nodesOf(3, 4);
        long before = 4;
        for (long supply : TAKEN) {
            due("what it was", x.supply(1, supply), before);
            before = supply;
        }
        due("what it was", x.supply(1, 0), 1000000);
        due("the other one", x.supply(0, 0), 3);
    }

    static void promise05_belowTheLeastOrAboveTheGreatest() {
        CostFlow x = nodesOf(3, 4);
        for (long supply : REFUSED) {
            due("supply(1, " + supply + ")", x.supply(1, supply), NO_SUPPLY);
            due("no NODE either", x.supply(2, supply), NO_SUPPLY);
        }
        due("what it was", x.supply(1, 0), 4);
    }

    static void promise05_whatItWasMayBeMinus1() {
        CostFlow x = nodesOf(-1, ENDLESS);
        due("NODE 0 had -1", x.supply(0, -1000000), -1);
        due("NODE 0 had the least", x.supply(0, 0), -1000000);
        due("NODE 1 had -2", x.supply(1, 0), -2);
    }

    static void promise05_isAnotherOne() {
        CostFlow x = nodesOf(0, 0);
        arc(x, 0, 1, 0, 1000000, 3);
        due("supply(0, 1000000)", x.supply(0, 1000000), 0);
        due("run(0)", x.run(0), 2);
        due("supply(1, -1000000)", x.supply(1, -1000000), 0);
        due("run(0)", x.run(0), 0);
        due("cost()", x.cost(), 3000000);
    }

    // ---- promise 6 ----

    static void promise06_ofAnArcThatIs() {
        CostFlow x = nodes(2);
        due("no ARC yet", x.price(0, 0), false);
        for (int k = 0; k < 80; k++) {
            arc(x, 0, 1, 0, 1, 1);
            due("the last", x.price(k, 2), true);
            due("one beyond", x.price(k + 1, 2), false);
        }
        for (int no : NO_NUMBERS) {
            due("ARC " + no, x.price(no, 2), false);
        }
    }

    static void promise06_fromTheLeastToTheGreatest() {
        for (long cost : TAKEN) {
            CostFlow x = nodesOf(1, -1);
            arc(x, 0, 1, 0, 1, 7);
            due("price(0, " + cost + ")", x.price(0, cost), true);
            due("run(0)", x.run(0), 0);
            due("cost()", x.cost(), cost);
        }
    }

    static void promise06_belowTheLeastOrAboveTheGreatest() {
        for (long cost : REFUSED) {
            CostFlow x = nodesOf(1, -1);
            arc(x, 0, 1, 0, 1, 7);
            due("price(0, " + cost + ")", x.price(0, cost), false);
            due("run(0)", x.run(0), 0);
            due("cost()", x.cost(), 7);
        }
    }

    static void promise06_withOnePieceItIsRefused() {
        CostFlow x = nodesOf(3, -3);
        arc(x, 0, 1, 0, 9, 7);
        due("without", x.price(0, 6), true);
        due("piece", x.piece(0, 2, 8), 1);
        for (long cost : TAKEN) {
            due("with", x.price(0, cost), false);
        }
        due("the same as it has", x.price(0, 6), false);
        due("run(0)", x.run(0), 0);
        due("cost()", x.cost(), 20);
    }

    static void promise06_aRefusedPieceIsNoPiece() {
        CostFlow x = nodesOf(3, -3);
        arc(x, 0, 1, 0, 9, 7);
        due("refused", x.piece(0, 9, 8), NONE);
        due("without", x.price(0, 6), true);
        due("run(0)", x.run(0), 0);
        due("cost()", x.cost(), 18);
        due("span(0, 0)", x.span(0, 0), NO_BOUND);
    }

    static void promise06_theSameAgain() {
        CostFlow x = nodesOf(3, -3);
        arc(x, 0, 1, 0, 9, 7);
        due("the same", x.price(0, 7), true);
        due("run(0)", x.run(0), 0);
        due("cost()", x.cost(), 21);
    }

    public static void main(String[] args) {
        runAll(NetBoundaryTest.class);
    }
}
