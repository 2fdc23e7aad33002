/** Each promise of the document by its number: ordinary inputs, the edges that it names, and wrong inputs. */
public final class PromiseTest {
    private static final int NONE = -1;
    private static final int ENDLESS = -2;
    private static final long NO_SPAN = -1000000001L;
    private static final long NO_BOUND = -1000000002L;
    private static int wrong = 0;

    private static void due(int promise, String call, long got, long want) {
        if (got != want) {
            wrong++;
            System.out.println("promise " + promise + ": " + call + " answered " + got + ", due is " + want);
        }
    }

    private static void due(int promise, String call, boolean got, boolean want) {
        due(promise, call, got ? 1 : 0, want ? 1 : 0);
    }

    /** What an object without anything answers to each call that only asks. */
    private static void dueEmpty(int promise, CostFlow x) {
        int[] counts = {0, 0, 0, 0, 0, 0, NONE};
        for (int what = 0; what < counts.length; what++) {
            due(promise, "told(" + what + ")", x.told(what), counts[what]);
        }
        dueGone(promise, x);
        due(promise, "mate(0)", x.mate(0), NONE);
        due(promise, "least()", x.least(), -10000001L);
        due(promise, "put(0, 0, 0)", x.put(0, 0, 0), false);
        due(promise, "supply(0, 0)", x.supply(0, 0), -1000001L);
        due(promise, "arc(0, 1, 0, 0, 0)", x.arc(0, 1, 0, 0, 0), NONE);
        due(promise, "piece(0, 1, 1)", x.piece(0, 1, 1), NONE);
        due(promise, "price(0, 0)", x.price(0, 0), false);
    }

    /** What is answered when nothing is told of BEST, FALLS or CAN'T. */
    private static void dueGone(int promise, CostFlow x) {
        due(promise, "told(3)", x.told(3), 0);
        due(promise, "told(4)", x.told(4), 0);
        due(promise, "told(6)", x.told(6), NONE);
        dueNotBest(promise, x);
        due(promise, "ring(0)", x.ring(0), NONE);
        due(promise, "set(0)", x.set(0), NONE);
    }

    private static void dueNotBest(int promise, CostFlow x) {
        due(promise, "cost()", x.cost(), 0);
        due(promise, "on(0)", x.on(0), NONE);
        due(promise, "potential(0)", x.potential(0), 1);
        due(promise, "check()", x.check(), NONE);
        due(promise, "span(0, 0)", x.span(0, 0), NO_SPAN);
        due(promise, "span(0, 1)", x.span(0, 1), NO_SPAN);
        due(promise, "keeps(0, 1)", x.keeps(0, 1), false);
    }

    /** 0 -> 1 -> 2 with 5 units at 3 and 4, and 0 -> 2 at 9 : BEST at 35. */
    private static CostFlow plain() {
        CostFlow x = new CostFlow();
        x.node(5);
        x.node(0);
        x.node(-5);
        x.arc(0, 1, 0, 10, 3);
        x.arc(1, 2, 0, ENDLESS, 4);
        x.arc(0, 2, 0, 10, 9);
        return x;
    }

    private static void newObject() {
        dueEmpty(1, new CostFlow());
        CostFlow x = new CostFlow();
        for (int way = 0; way < 3; way++) {
            due(1, "run of nothing", x.run(way), 0);
            due(1, "cost()", x.cost(), 0);
            due(1, "check()", x.check(), 1);
            due(1, "on(0)", x.on(0), NONE);
            due(1, "potential(0)", x.potential(0), 1);
        }
    }

    private static void nodes() {
        CostFlow x = new CostFlow();
        due(2, "node(1000001)", x.node(1000001), NONE);
        due(2, "node(-1000001)", x.node(-1000001), NONE);
        due(2, "node(least long)", x.node(Long.MIN_VALUE), NONE);
        due(2, "node(greatest long)", x.node(Long.MAX_VALUE), NONE);
        due(2, "told(0)", x.told(0), 0);
        due(2, "node(1000000)", x.node(1000000), 0);
        due(2, "node(-1000000)", x.node(-1000000), 1);
        for (int k = 2; k < 24; k++) {
            due(2, "node(0)", x.node(0), k);
        }
        due(2, "a 25th node", x.node(0), NONE);
        due(2, "told(0)", x.told(0), 24);
        due(2, "run(0)", x.run(0), 2);
        due(2, "node(0) when there are 24", x.node(0), NONE);
        due(2, "told(6) after a refusal", x.told(6), 2);
    }

    private static void arcs() {
        CostFlow x = new CostFlow();
        x.node(0);
        x.node(0);
        due(3, "from no node", x.arc(2, 0, 0, 1, 1), NONE);
        due(3, "to no node", x.arc(0, 2, 0, 1, 1), NONE);
        due(3, "from -1", x.arc(-1, 0, 0, 1, 1), NONE);
        due(3, "to least int", x.arc(0, Integer.MIN_VALUE, 0, 1, 1), NONE);
        due(3, "to greatest int", x.arc(0, Integer.MAX_VALUE, 0, 1, 1), NONE);
        due(3, "both the same", x.arc(1, 1, 0, 1, 1), NONE);
        due(3, "low -1", x.arc(0, 1, -1, 1, 1), NONE);
        due(3, "low 1000001", x.arc(0, 1, 1000001, ENDLESS, 1), NONE);
        due(3, "most below low", x.arc(0, 1, 2, 1, 1), NONE);
        due(3, "most -1", x.arc(0, 1, 0, -1, 1), NONE);
        due(3, "most -3", x.arc(0, 1, 0, -3, 1), NONE);
        due(3, "most 1000001", x.arc(0, 1, 0, 1000001, 1), NONE);
        due(3, "cost 1000001", x.arc(0, 1, 0, 1, 1000001), NONE);
        due(3, "cost -1000001", x.arc(0, 1, 0, 1, -1000001), NONE);
        due(3, "cost least long", x.arc(0, 1, 0, 1, Long.MIN_VALUE), NONE);
        due(3, "told(1)", x.told(1), 0);
        due(3, "bounds at their edges", x.arc(0, 1, 1000000, 1000000, 1000000), 0);
        due(3, "bounds at their edges", x.arc(1, 0, 0, 1000000, -1000000), 1);
        due(3, "ENDLESS", x.arc(1, 0, 1000000, ENDLESS, 0), 2);
        due(3, "nothing may go", x.arc(0, 1, 0, 0, 0), 3);
        for (int k = 4; k < 80; k++) {
            due(3, "arc", x.arc(0, 1, 0, 1, 1), k);
        }
        due(3, "an 81st arc", x.arc(0, 1, 0, 1, 1), NONE);
        due(3, "told(1)", x.told(1), 80);
    }

    private static void pieces() {
        CostFlow x = new CostFlow();
        x.node(0);
        x.node(0);
        x.arc(0, 1, 2, 10, 5);
        x.arc(0, 1, 0, ENDLESS, -5);
        x.arc(0, 1, 1000000, ENDLESS, 0);
        due(4, "no such arc", x.piece(3, 5, 6), NONE);
        due(4, "arc -1", x.piece(-1, 5, 6), NONE);
        due(4, "mark at LOW", x.piece(0, 2, 6), NONE);
        due(4, "mark at MOST", x.piece(0, 10, 6), NONE);
        due(4, "cost below", x.piece(0, 3, 4), NONE);
        due(4, "cost above", x.piece(0, 3, 1000001), NONE);
        due(4, "told(2)", x.told(2), 0);
        due(4, "mark above LOW", x.piece(0, 3, 5), 1);
        due(4, "mark at the last one", x.piece(0, 3, 6), NONE);
        due(4, "second", x.piece(0, 4, 6), 2);
        due(4, "cost below the last", x.piece(0, 9, 5), NONE);
        due(4, "third below MOST", x.piece(0, 9, 1000000), 3);
        due(4, "fourth, at other refusals too", x.piece(0, 9, 1000000), NONE);
        due(4, "mark 1000001 of ENDLESS", x.piece(1, 1000001, 0), NONE);
        due(4, "mark greatest long of ENDLESS", x.piece(1, Long.MAX_VALUE, 0), NONE);
        due(4, "mark 1000000 of ENDLESS", x.piece(1, 1000000, -5), 1);
        due(4, "no mark above LOW", x.piece(2, 1000001, 0), NONE);
        due(4, "mark below LOW", x.piece(2, 1000000, 0), NONE);
        due(4, "told(2)", x.told(2), 4);
        x.arc(0, 1, 0, 5, 0);
        x.piece(3, 1, 1);
        x.piece(3, 2, 2);
        x.piece(3, 3, 3);
        due(4, "a fourth piece that fits", x.piece(3, 4, 4), NONE);
    }

    private static void piecesCost() {
        CostFlow x = new CostFlow();
        x.node(9);
        x.node(-9);
        x.arc(0, 1, 1, ENDLESS, 1);
        x.piece(0, 3, 2);
        x.piece(0, 5, 4);
        x.piece(0, 7, 8);
        due(4, "run(0)", x.run(0), 0);
        due(4, "3 at 1, 2 at 2, 2 at 4, 2 at 8", x.cost(), 3 + 4 + 8 + 16);
        due(4, "piece goes on", x.piece(0, 8, 9), NONE);
        due(4, "told(6) after a refusal", x.told(6), 0);
    }

    private static void supplies() {
        CostFlow x = plain();
        x.run(0);
        due(5, "no such node", x.supply(3, 0), -1000001L);
        due(5, "node -1", x.supply(-1, 0), -1000001L);
        due(5, "1000001", x.supply(0, 1000001), -1000001L);
        due(5, "-1000001", x.supply(0, -1000001), -1000001L);
        due(5, "least long", x.supply(0, Long.MIN_VALUE), -1000001L);
        due(5, "told(6) after refusals", x.told(6), 0);
        due(5, "supply(0, 6)", x.supply(0, 6), 5);
        dueGone(5, x);
        due(5, "supply(2, -6)", x.supply(2, -6), -5);
        due(5, "run(0)", x.run(0), 0);
        due(5, "cost()", x.cost(), 42);
        due(5, "the same again", x.supply(0, 6), 6);
        dueGone(5, x);
        due(5, "1000000", x.supply(0, 1000000), 6);
        due(5, "-1000000", x.supply(0, -1000000), 1000000);
    }

    private static void prices() {
        CostFlow x = plain();
        x.run(1);
        due(6, "no such arc", x.price(3, 0), false);
        due(6, "arc -1", x.price(-1, 0), false);
        due(6, "1000001", x.price(0, 1000001), false);
        due(6, "-1000001", x.price(0, -1000001), false);
        due(6, "told(6) after refusals", x.told(6), 0);
        due(6, "price(2, 6)", x.price(2, 6), true);
        dueGone(6, x);
        due(6, "run(0)", x.run(0), 0);
        due(6, "cost()", x.cost(), 30);
        due(6, "the same again", x.price(2, 6), true);
        dueGone(6, x);
        due(6, "1000000", x.price(2, 1000000), true);
        due(6, "-1000000", x.price(2, -1000000), true);
        x.piece(2, 5, 0);
        x.run(0);
        due(6, "with pieces", x.price(2, 6), false);
        due(6, "told(6) after a refusal", x.told(6), 0);
    }

    private static void runs() {
        CostFlow x = plain();
        due(7, "run(-1)", x.run(-1), NONE);
        due(7, "run(3)", x.run(3), NONE);
        due(7, "run(greatest int)", x.run(Integer.MAX_VALUE), NONE);
        due(7, "told(6)", x.told(6), NONE);
        for (int way = 0; way < 3; way++) {
            x = plain();
            due(7, "BEST", x.run(way), 0);
            due(7, "run(3) after it", x.run(3), NONE);
            due(7, "told(6) after a refusal", x.told(6), 0);
            due(7, "cost() after a refusal", x.cost(), 35);
            x.arc(2, 1, 0, ENDLESS, -5);
            due(7, "FALLS", x.run(way), 1);
            dueNotBest(7, x);
            x.supply(0, 21);
            x.supply(2, -21);
            due(7, "CAN'T before FALLS", x.run(way), 2);
            dueNotBest(7, x);
            due(7, "told(3)", x.told(3), 0);
            x.supply(0, 20);
            x.supply(2, -20);
            x.price(3, -4);
            due(7, "a ring of cost 0 is none", x.run(way), 0);
            due(7, "cost()", x.cost(), 160);
            x.price(3, 7);
            x.price(1, -7);
            due(7, "a ring of cost 0 is none", x.run(way), 0);
            due(7, "cost()", x.cost(), 10 * (3 - 7) + 10 * 9);
        }
    }

    private static void endsInsteadOfFalling() {
        for (int way = 0; way < 3; way++) {
            CostFlow x = new CostFlow();
            x.node(0);
            x.node(0);
            x.arc(0, 1, 0, ENDLESS, -5);
            x.arc(1, 0, 0, ENDLESS, -6);
            x.piece(0, 4, 7);
            due(7, "beyond its mark the ring does not fall", x.run(way), 0);
            due(7, "cost()", x.cost(), -44);
            due(7, "on(1)", x.on(1), 4);
            x.price(1, -8);
            due(7, "beyond its mark the ring falls", x.run(way), 1);
            x.price(1, -7);
            due(7, "beyond its mark the ring is 0", x.run(way), 0);
            due(7, "least on ARC 0", x.on(0), 4);
            due(7, "cost()", x.cost(), -48);
        }
    }

    private static void costs() {
        CostFlow x = new CostFlow();
        due(8, "before a run", x.cost(), 0);
        for (int k = 0; k < 24; k++) {
            x.node(k == 0 ? 1000000 : k == 23 ? -1000000 : 0);
        }
        for (int k = 0; k < 23; k++) {
            x.arc(k, k + 1, 0, ENDLESS, 1000000);
        }
        for (int way = 0; way < 3; way++) {
            x.run(way);
            due(8, "a long way", x.cost(), 23000000000000L);
        }
        for (int k = 0; k < 23; k++) {
            x.price(k, -1000000);
        }
        for (int way = 0; way < 3; way++) {
            due(8, "all fall, without a ring", x.run(way), 0);
            due(8, "cost()", x.cost(), -23000000000000L);
        }
    }

    private static void amounts() {
        CostFlow x = new CostFlow();
        x.node(4);
        x.node(-4);
        for (int k = 0; k < 4; k++) {
            x.arc(0, 1, k == 1 ? 1 : 0, 2, 7);
        }
        long[] want = {0, 1, 1, 2};
        for (int way = 0; way < 3; way++) {
            x.run(way);
            for (int k = 0; k < 4; k++) {
                due(9, "on(" + k + ")", x.on(k), want[k]);
            }
            due(9, "on(4)", x.on(4), NONE);
            due(9, "on(-1)", x.on(-1), NONE);
            due(9, "on(least int)", x.on(Integer.MIN_VALUE), NONE);
        }
        x.arc(1, 0, 0, ENDLESS, -7);
        x.run(2);
        due(9, "a ring of cost 0 stays empty", x.on(4), 0);
        due(9, "on(0)", x.on(0), 0);
        x.supply(0, 9);
        x.run(0);
        due(9, "not BEST", x.on(0), NONE);
    }

    private static void greatAmounts() {
        for (int way = 0; way < 3; way++) {
            CostFlow x = new CostFlow();
            x.node(-1000000);
            x.node(1000000);
            for (int k = 0; k < 78; k++) {
                x.arc(0, 1, k % 2 == 0 ? 1000000 : 0, 1000000, -1000000);
            }
            x.arc(1, 0, 0, 999999, 1000000);
            x.arc(1, 0, 0, ENDLESS, 999999);
            due(9, "run", x.run(way), 0);
            due(9, "all come back on one", x.on(79), 79000000);
            due(9, "the dearer one", x.on(78), 0);
            due(8, "cost()", x.cost(), 79000000L * 999999 - 78000000L * 1000000);
            due(11, "check()", x.check(), 1);
            x.clear();
            x.node(0);
            x.node(0);
            x.arc(0, 1, 0, ENDLESS, -1000000);
            x.arc(1, 0, 0, ENDLESS, -1000000);
            x.piece(0, 1000000, 1000000);
            x.piece(1, 999999, 0);
            due(9, "run", x.run(way), 0);
            due(9, "up to where it does not fall", x.on(1), 1000000);
            due(8, "cost()", x.cost(), -1999999000000L);
            due(10, "potential(0)", x.potential(0), 0);
            due(10, "potential(1)", x.potential(1), 0);
            due(14, "span with pieces", x.span(1, 0), NO_SPAN);
        }
    }

    private static void potentials() {
        CostFlow x = plain();
        due(10, "before a run", x.potential(0), 1);
        for (int way = 0; way < 3; way++) {
            x.run(way);
            due(10, "potential(0)", x.potential(0), -7);
            due(10, "potential(1)", x.potential(1), -4);
            due(10, "potential(2)", x.potential(2), 0);
            due(10, "potential(3)", x.potential(3), 1);
            due(10, "potential(-1)", x.potential(-1), 1);
        }
        x.supply(0, 6);
        x.run(0);
        due(10, "not BEST", x.potential(0), 1);
    }

    private static void checks() {
        CostFlow x = plain();
        due(11, "before a run", x.check(), NONE);
        x.run(0);
        due(11, "BEST", x.check(), 1);
        due(11, "again", x.check(), 1);
        due(11, "on(0) after it", x.on(0), 5);
        x.arc(2, 1, 0, ENDLESS, -5);
        due(11, "gone", x.check(), NONE);
        x.run(0);
        due(11, "FALLS", x.check(), NONE);
        x.supply(0, 0);
        x.run(0);
        due(11, "CAN'T", x.check(), NONE);
    }

    private static void rings() {
        CostFlow x = new CostFlow();
        for (int k = 0; k < 4; k++) {
            x.node(0);
        }
        x.arc(0, 1, 0, ENDLESS, -9);
        x.arc(1, 2, 0, ENDLESS, -9);
        x.arc(2, 0, 0, ENDLESS, -9);
        x.arc(3, 2, 0, ENDLESS, 1);
        x.arc(2, 3, 0, ENDLESS, -2);
        x.arc(2, 3, 0, 5, -9);
        x.arc(3, 1, 0, ENDLESS, 2);
        for (int way = 0; way < 3; way++) {
            due(12, "run", x.run(way), 1);
            due(12, "fewest arcs", x.told(3), 2);
            due(12, "from the lowest on", x.ring(0), 3);
            due(12, "ring(1), ENDLESS", x.ring(1), 4);
            due(12, "ring(2)", x.ring(2), NONE);
            due(12, "ring(-1)", x.ring(-1), NONE);
            due(12, "set(0)", x.set(0), NONE);
        }
        x.price(4, -1);
        x.run(0);
        due(12, "three arcs", x.told(3), 3);
        due(12, "ring(0)", x.ring(0), 0);
        due(12, "ring(1)", x.ring(1), 1);
        due(12, "ring(2)", x.ring(2), 2);
        x.arc(1, 2, 0, ENDLESS, 1);
        x.price(1, 19);
        x.run(0);
        due(12, "1 -> 2 -> 3 -> 1 is above 0", x.ring(1), 7);
        x.price(1, 17);
        x.run(0);
        due(12, "the lower number, though it costs more", x.ring(1), 1);
        x.price(1, 18);
        x.run(0);
        due(12, "a sum of 0 is no ring", x.ring(1), 7);
        x.price(2, 18);
        x.run(0);
        due(12, "none left", x.told(6), 0);
        due(12, "ring(0)", x.ring(0), NONE);
    }

    private static void sets() {
        CostFlow x = new CostFlow();
        x.node(5);
        x.node(3);
        x.node(0);
        x.node(-8);
        x.arc(0, 2, 0, ENDLESS, 1);
        x.arc(1, 3, 0, 3, 1);
        x.arc(2, 3, 0, 4, 1);
        for (int way = 0; way < 3; way++) {
            due(13, "run", x.run(way), 2);
            due(13, "told(4)", x.told(4), 2);
            due(13, "set(0)", x.set(0), 0);
            due(13, "set(1), as the arc to it is ENDLESS", x.set(1), 2);
            due(13, "set(2), node 1 adds nothing", x.set(2), NONE);
            due(13, "set(-1)", x.set(-1), NONE);
            due(13, "ring(0)", x.ring(0), NONE);
        }
        x.supply(3, -7);
        x.run(0);
        due(13, "supplies together are not 0", x.told(4), 4);
        due(13, "set(3)", x.set(3), 3);
        x.supply(0, 4);
        due(13, "run", x.run(0), 0);
        due(13, "set(0) when BEST", x.set(0), NONE);
        due(13, "told(4) when BEST", x.told(4), 0);
        x.arc(1, 0, 2, 2, 1);
        x.run(0);
        due(13, "a LOW into the set", x.told(4), 2);
        due(13, "set(0)", x.set(0), 0);
    }

    private static void spans() {
        CostFlow x = plain();
        due(14, "before a run", x.span(0, 0), NO_SPAN);
        for (int way = 0; way < 3; way++) {
            x.run(way);
            due(14, "used: no least", x.span(0, 0), NO_BOUND);
            due(14, "used: greatest", x.span(0, 1), 5);
            due(14, "ENDLESS and used: no least", x.span(1, 0), NO_BOUND);
            due(14, "ENDLESS and used: greatest", x.span(1, 1), 6);
            due(14, "not used: least", x.span(2, 0), 7);
            due(14, "not used: no greatest", x.span(2, 1), NO_BOUND);
            due(14, "no such arc", x.span(3, 0), NO_SPAN);
            due(14, "arc -1", x.span(-1, 0), NO_SPAN);
            due(14, "end 2", x.span(0, 2), NO_SPAN);
            due(14, "end -1", x.span(0, -1), NO_SPAN);
        }
        x.piece(2, 5, 9);
        x.run(0);
        due(14, "with pieces", x.span(2, 0), NO_SPAN);
        x.arc(0, 1, 3, 3, 2);
        x.run(0);
        due(14, "neither more nor less may go", x.span(3, 0), NO_BOUND);
        due(14, "neither more nor less may go", x.span(3, 1), NO_BOUND);
    }

    private static void spansBeyondCosts() {
        CostFlow x = new CostFlow();
        x.node(1);
        x.node(0);
        x.node(-1);
        x.arc(0, 2, 0, 1, 5);
        x.arc(0, 1, 0, 1, 1000000);
        x.arc(1, 2, 0, 1, 1000000);
        x.run(0);
        due(14, "more than a COST may be", x.span(0, 1), 2000000);
        due(15, "more than a COST may be", x.keeps(0, 2000000), true);
        due(15, "and one more", x.keeps(0, 2000001), false);
        due(14, "less than a COST may be", x.span(1, 0), 5 - 1000000);
    }

    private static void keeping() {
        CostFlow x = plain();
        due(15, "before a run", x.keeps(0, 3), false);
        x.run(2);
        due(15, "at the limit", x.keeps(0, 5), true);
        due(15, "above it", x.keeps(0, 6), false);
        due(15, "least long", x.keeps(0, Long.MIN_VALUE), true);
        due(15, "greatest long", x.keeps(0, Long.MAX_VALUE), false);
        due(15, "at the least", x.keeps(2, 7), true);
        due(15, "below it", x.keeps(2, 6), false);
        due(15, "greatest long, not used", x.keeps(2, Long.MAX_VALUE), true);
        due(15, "least long, not used", x.keeps(2, Long.MIN_VALUE), false);
        due(15, "no such arc", x.keeps(3, 3), false);
        due(15, "arc -1", x.keeps(-1, 3), false);
        due(15, "told(6) after it", x.told(6), 0);
        due(15, "cost() after it", x.cost(), 35);
        x.piece(0, 5, 9);
        x.run(2);
        due(15, "with pieces", x.keeps(0, 3), false);
    }

    private static void assigning() {
        CostFlow x = new CostFlow();
        int[] refused = {0, 9, -1, Integer.MIN_VALUE, Integer.MAX_VALUE};
        for (int n : refused) {
            due(16, "assign(" + n + ")", x.assign(n), false);
        }
        due(16, "told(5)", x.told(5), 0);
        due(16, "assign(1)", x.assign(1), true);
        due(16, "all barred", x.least(), -10000001L);
        x.put(0, 0, 6);
        for (int n : refused) {
            due(16, "assign(" + n + ")", x.assign(n), false);
        }
        due(16, "least() after refusals", x.least(), 6);
        due(16, "assign(8)", x.assign(8), true);
        due(16, "told(5)", x.told(5), 8);
        due(16, "assign(1) again", x.assign(1), true);
        due(16, "barred again", x.mate(0), NONE);
        due(16, "least()", x.least(), -10000001L);
    }

    private static void putting() {
        CostFlow x = new CostFlow();
        due(17, "without an assignment", x.put(0, 0, 1), false);
        x.assign(2);
        due(17, "i = 2", x.put(2, 0, 1), false);
        due(17, "j = 2", x.put(0, 2, 1), false);
        due(17, "i = -1", x.put(-1, 0, 1), false);
        due(17, "j = -1", x.put(0, -1, 1), false);
        due(17, "1000001", x.put(0, 0, 1000001), false);
        due(17, "-1000001", x.put(0, 0, -1000001), false);
        due(17, "least long", x.put(0, 0, Long.MIN_VALUE), false);
        due(17, "1000000", x.put(0, 0, 1000000), true);
        due(17, "-1000000", x.put(1, 1, -1000000), true);
        due(17, "least()", x.least(), 0);
        due(17, "another cost", x.put(0, 0, 7), true);
        due(17, "least() with it", x.least(), 7 - 1000000);
        due(17, "refused", x.put(0, 0, 1000001), false);
        due(17, "least() after it", x.least(), 7 - 1000000);
        CostFlow y = plain();
        y.run(0);
        y.assign(2);
        y.put(0, 0, 1);
        due(17, "the flow is still told", y.cost(), 35);
    }

    private static void mates() {
        CostFlow x = new CostFlow();
        due(18, "without an assignment", x.mate(0), NONE);
        x.assign(8);
        for (int i = 0; i < 8; i++) {
            for (int j = 0; j < 8; j++) {
                x.put(i, j, 1000000);
            }
        }
        for (int i = 0; i < 8; i++) {
            due(18, "all alike: the lowest", x.mate(i), i);
        }
        due(18, "mate(8)", x.mate(8), NONE);
        due(18, "mate(-1)", x.mate(-1), NONE);
        x.put(0, 7, 999999);
        due(18, "mate(0)", x.mate(0), 7);
        due(18, "mate(7)", x.mate(7), 6);
        x.assign(2);
        x.put(0, 0, 1);
        x.put(1, 0, 1);
        due(18, "two want the same", x.mate(0), NONE);
        x.put(0, 1, 5);
        due(18, "mate(0)", x.mate(0), 1);
        due(18, "mate(1)", x.mate(1), 0);
        due(18, "mate(2) is none any more", x.mate(2), NONE);
    }

    private static void leasts() {
        CostFlow x = new CostFlow();
        due(19, "without an assignment", x.least(), -10000001L);
        x.assign(8);
        for (int sign = -1; sign < 2; sign += 2) {
            for (int i = 0; i < 8; i++) {
                for (int j = 0; j < 8; j++) {
                    x.put(i, j, sign * 1000000L);
                }
            }
            due(19, "eight at the edge", x.least(), sign * 8000000L);
        }
        x.assign(3);
        x.put(0, 0, 1);
        x.put(1, 1, 1);
        due(19, "the third has none", x.least(), -10000001L);
        x.put(2, 2, -4);
        due(19, "least()", x.least(), -2);
        x.put(0, 1, -9);
        x.put(1, 0, 7);
        due(19, "least(), the others", x.least(), -6);
    }

    private static void counts() {
        CostFlow x = plain();
        x.piece(1, 8, 9);
        x.assign(6);
        due(20, "told(0)", x.told(0), 3);
        due(20, "told(1)", x.told(1), 3);
        due(20, "told(2)", x.told(2), 1);
        due(20, "told(5)", x.told(5), 6);
        due(20, "told(6)", x.told(6), NONE);
        due(20, "told(7)", x.told(7), NONE);
        due(20, "told(-1)", x.told(-1), NONE);
        due(20, "told(least int)", x.told(Integer.MIN_VALUE), NONE);
        x.run(0);
        due(20, "told(6)", x.told(6), 0);
        due(20, "told(3)", x.told(3), 0);
        x.arc(2, 1, 0, ENDLESS, -10);
        due(20, "told(6), gone", x.told(6), NONE);
        x.run(0);
        due(20, "told(6)", x.told(6), 1);
        due(20, "told(3)", x.told(3), 2);
        due(20, "told(4)", x.told(4), 0);
        x.piece(3, 1, 10);
        dueGone(20, x);
        x.node(4);
        x.run(0);
        due(20, "told(6)", x.told(6), 2);
        due(20, "told(3)", x.told(3), 0);
        due(20, "told(4)", x.told(4), 4);
        x.node(-4);
        dueGone(20, x);
        due(20, "told(0)", x.told(0), 5);
        due(20, "told(2)", x.told(2), 2);
    }

    private static void clearing() {
        CostFlow x = plain();
        x.piece(0, 3, 9);
        x.assign(2);
        x.put(0, 0, 1);
        x.put(1, 1, 1);
        x.run(0);
        x.clear();
        dueEmpty(21, x);
        x.node(0);
        x.node(0);
        x.arc(0, 1, 0, ENDLESS, -1);
        due(21, "no pieces are left", x.piece(0, 1, -1), 1);
        x.arc(1, 0, 0, ENDLESS, 0);
        x.run(0);
        due(21, "FALLS", x.told(3), 2);
        x.clear();
        dueEmpty(21, x);
        x.node(1);
        x.run(0);
        due(21, "CAN'T", x.told(4), 1);
        x.clear();
        dueEmpty(21, x);
        x.assign(2);
        due(21, "all are barred", x.least(), -10000001L);
    }

    public static void main(String[] args) {
        newObject();
        nodes();
        arcs();
        pieces();
        piecesCost();
        supplies();
        prices();
        runs();
        endsInsteadOfFalling();
        costs();
        amounts();
        greatAmounts();
        potentials();
        checks();
        rings();
        sets();
        spans();
        spansBeyondCosts();
        keeping();
        assigning();
        putting();
        mates();
        leasts();
        counts();
        clearing();
        System.out.println(wrong == 0 ? "all answers are as due" : wrong + " answers are not as due");
        if (wrong != 0) {
            System.exit(1);
        }
    }
}
