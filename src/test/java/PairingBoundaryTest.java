/** Promises 16 to 19 at their edges: the ASSIGNMENT. */
public final class PairingBoundaryTest extends Boundary {

    /** An ASSIGNMENT of n in which each pair has the same COST. */
    private static CostFlow full(int n, long cost) {
        CostFlow x = new CostFlow();
        due("assign(" + n + ")", x.assign(n), true);
        putAll(x, n, cost);
        return x;
    }

    private static void putAll(CostFlow x, int n, long cost) {
        for (int i = 0; i < n; i++) {
            for (int j = 0; j < n; j++) {
                due("put(" + i + ", " + j + ")", x.put(i, j, cost), true);
            }
        }
    }

    private static void dueMates(String when, CostFlow x, long least, int... mates) {
        due(when + ": told(5)", x.told(5), mates.length);
        due(when + ": least()", x.least(), least);
        for (int i = 0; i < mates.length; i++) {
            due(when + ": mate(" + i + ")", x.mate(i), mates[i]);
        }
        due(when + ": mate(" + mates.length + ")", x.mate(mates.length), NONE);
        for (int no : NO_NUMBERS) {
            due(when + ": mate(" + no + ")", x.mate(no), NONE);
        }
    }

    private static void dueNoMates(String when, CostFlow x, int n) {
        due(when + ": told(5)", x.told(5), n);
        due(when + ": least()", x.least(), NO_LEAST);
        for (int i = -1; i <= 8; i++) {
            due(when + ": mate(" + i + ")", x.mate(i), NONE);
        }
    }

    // ---- promise 16 ----

    static void promise16_from1To8() {
        for (int n = 1; n <= 8; n++) {
            CostFlow x = new CostFlow();
            due("assign(" + n + ")", x.assign(n), true);
            due("told(5)", x.told(5), n);
        }
    }

    static void promise16_below1OrAbove8() {
        for (int n : new int[] {0, 9, -1, -2, 16, 256, 65536, 1 << 30, Integer.MIN_VALUE, Integer.MAX_VALUE}) {
            CostFlow x = new CostFlow();
            due("assign(" + n + ")", x.assign(n), false);
            dueNoPairing("none before, none after", x);
            x = full(3, 4);
            due("assign(" + n + ")", x.assign(n), false);
            dueMates("as before it", x, 12, 0, 1, 2);
            due("its pairs are still told", x.put(0, 2, 3), true);
            dueMates("one of them another", x, 11, 2, 0, 1);
        }
    }

    static void promise16_allPairsAreBarredAtFirst() {
        for (int n = 1; n <= 8; n++) {
            CostFlow x = new CostFlow();
            x.assign(n);
            dueNoMates("at first", x, n);
            for (int i = 0; i < n; i++) {
                dueNoMates("before pair " + i, x, n);
                due("put", x.put(i, n - 1 - i, i), true);
            }
            int[] mates = new int[n];
            for (int i = 0; i < n; i++) {
                mates[i] = n - 1 - i;
            }
            dueMates("the only one", x, n * (n - 1) / 2, mates);
        }
    }

    static void promise16_allPairsAreBarredAgain() {
        for (int n = 1; n <= 8; n++) {
            for (int before : new int[] {1, n, 8}) {
                CostFlow x = full(before, 1);
                due("least() of the one before", x.least(), before);
                due("assign(" + n + ")", x.assign(n), true);
                dueNoMates("barred again", x, n);
                for (int i = 1; i < n; i++) {
                    x.put(i, i, 1);
                }
                dueNoMates("0 is still barred", x, n);
                due("put(0, 0)", x.put(0, 0, 1), true);
                due("least()", x.least(), n);
            }
        }
    }

    // ---- promise 17 ----

    static void promise17_noSuchPair() {
        CostFlow x = new CostFlow();
        due("no ASSIGNMENT", x.put(0, 0, 0), false);
        for (int n = 1; n <= 8; n++) {
            x = new CostFlow();
            x.assign(n);
            due("i = " + n, x.put(n, 0, 0), false);
            due("j = " + n, x.put(0, n, 0), false);
            due("both " + n, x.put(n, n, 0), false);
            for (int no : NO_NUMBERS) {
                due("i = " + no, x.put(no, 0, 0), false);
                due("j = " + no, x.put(0, no, 0), false);
                due("both " + no, x.put(no, no, 0), false);
            }
            due("i = 1, j = -" + n, x.put(1, -n, 0), false);
            dueNoMates("none of them is a pair", x, n);
            due("the last pair", x.put(n - 1, n - 1, 0), true);
        }
    }

    static void promise17_costFromTheLeastToTheGreatest() {
        for (long cost : TAKEN) {
            CostFlow x = new CostFlow();
            x.assign(1);
            due("put(0, 0, " + cost + ")", x.put(0, 0, cost), true);
            dueMates("COST " + cost, x, cost, 0);
        }
    }

    static void promise17_costBelowTheLeastOrAboveTheGreatest() {
        for (long cost : REFUSED) {
            CostFlow x = new CostFlow();
            x.assign(1);
            due("put(0, 0, " + cost + ")", x.put(0, 0, cost), false);
            dueNoMates("still barred", x, 1);
            due("put(0, 0, 7)", x.put(0, 0, 7), true);
            due("put(0, 0, " + cost + ")", x.put(0, 0, cost), false);
            dueMates("COST 7 still", x, 7, 0);
        }
    }

    static void promise17_aPairHasAnotherCost() {
        CostFlow x = full(2, 5);
        dueMates("all 5", x, 10, 0, 1);
        due("put", x.put(0, 1, 4), true);
        dueMates("one less", x, 9, 1, 0);
        due("put", x.put(0, 1, 5), true);
        dueMates("as before", x, 10, 0, 1);
        due("put", x.put(0, 0, 6), true);
        dueMates("one more", x, 10, 1, 0);
    }

    static void promise17_eachPairOf8IsItsOwn() {
        for (int pair = 0; pair < 64; pair++) {
            CostFlow x = full(8, 2);
            due("put", x.put(pair / 8, pair % 8, 1), true);
            due("least()", x.least(), 15);
            due("mate(" + pair / 8 + ")", x.mate(pair / 8), pair % 8);
        }
    }

    // ---- promise 18 ----

    static void promise18_noSuchI() {
        for (int n = 1; n <= 8; n++) {
            dueMates("all alike", full(n, 3), 3 * n, upTo(n));
        }
        dueNoPairing("no ASSIGNMENT", new CostFlow());
    }

    static void promise18_noneWithoutAPairThatIsBarred() {
        for (int n = 2; n <= 8; n++) {
            CostFlow x = new CostFlow();
            x.assign(n);
            for (int i = 0; i < n; i++) {
                for (int j = 0; j < n - 1; j++) {
                    due("put", x.put(i, j, -1000000), true);
                }
            }
            dueNoMates("the last of the second is barred for all", x, n);
            due("put", x.put(0, n - 1, 1000000), true);
            due("mate(0)", x.mate(0), n - 1);
            due("mate(1)", x.mate(1), 0);
            due("least()", x.least(), 1000000L - 1000000L * (n - 1));
        }
    }

    static void promise18_twoThatWantTheSame() {
        CostFlow x = new CostFlow();
        x.assign(3);
        x.put(0, 0, 0);
        x.put(1, 0, 0);
        x.put(2, 0, 0);
        x.put(2, 1, 0);
        x.put(2, 2, 0);
        dueNoMates("0 and 1 want the same", x, 3);
        x.put(1, 1, 0);
        dueMates("1 has another", x, 0, 0, 1, 2);
    }

    static void promise18_0HasTheLowestThen1() {
        CostFlow x = full(3, 0);
        x.put(0, 0, 1);
        dueMates("0 has 1, then 1 has 0", x, 0, 1, 0, 2);
        x.put(1, 0, 1);
        dueMates("0 has 1, 1 has 2", x, 0, 1, 2, 0);
        x.put(2, 0, 1);
        dueMates("all may have 0 at 1", x, 1, 0, 1, 2);
    }

    static void promise18_of8TheLastOne() {
        CostFlow x = full(8, 9);
        for (int i = 0; i < 8; i++) {
            due("put", x.put(i, 7 - i, 8), true);
        }
        dueMates("the other way round", x, 64, 7, 6, 5, 4, 3, 2, 1, 0);
    }

    // ---- promise 19 ----

    static void promise19_theGreatestAndTheLeastSum() {
        for (int n = 1; n <= 8; n++) {
            dueMates("all at the greatest", full(n, 1000000), 1000000L * n, upTo(n));
            dueMates("all at the least", full(n, -1000000), -1000000L * n, upTo(n));
        }
    }

    static void promise19_theLeastCostMayBeMinus1() {
        CostFlow x = full(1, -1);
        dueMates("-1 is a sum", x, -1, 0);
        x = full(2, 0);
        dueMates("0 is a sum", x, 0, 0, 1);
    }

    static void promise19_whenThereIsNone() {
        dueNoPairing("no ASSIGNMENT", new CostFlow());
        CostFlow x = full(2, 1);
        due("assign(9)", x.assign(9), false);
        due("least()", x.least(), 2);
        due("assign(2)", x.assign(2), true);
        due("least()", x.least(), NO_LEAST);
        x.put(0, 0, 0);
        x.put(1, 0, 0);
        due("least()", x.least(), NO_LEAST);
    }

    public static void main(String[] args) {
        runAll(PairingBoundaryTest.class);
    }
}
