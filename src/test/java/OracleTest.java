import java.math.BigInteger;
import java.util.ArrayList;
import java.util.Arrays;
import java.util.List;
import java.util.Random;

/** Nets by chance (from fixed seeds), small ones against trying everything, large ones against what must hold. */
public final class OracleTest {
    private static final int NONE = -1;
    private static final int ENDLESS = -2;
    private static final long FAR = Long.MAX_VALUE / 4;
    private static int wrong = 0;
    private static final int[] met = new int[3];
    private static CostFlow used = new CostFlow();
    private static int made = 0;

    private static void due(String what, long got, long want) {
        if (got != want) {
            wrong++;
            if (wrong < 40) {
                System.out.println(what + " answered " + got + ", due is " + want);
            }
        }
    }

    /** An ARC as the test knows it: its parts begin at marks[p] and cost rates[p]. */
    private static final class Arc {
        int from;
        int to;
        long low;
        long most;
        final List<Long> marks = new ArrayList<>();
        final List<Long> rates = new ArrayList<>();

        boolean endless() {
            return most == ENDLESS;
        }

        long last() {
            return rates.get(rates.size() - 1);
        }

        long unit(long number) {
            int part = 0;
            while (part < marks.size() && number > marks.get(part)) {
                part++;
            }
            return rates.get(part);
        }

        long costOf(long amount) {
            long sum = 0;
            long before = 0;
            for (int part = 0; part < rates.size() && before < amount; part++) {
                long end = part < marks.size() ? Math.min(amount, marks.get(part)) : amount;
                sum += (end - before) * rates.get(part);
                before = end;
            }
            return sum;
        }
    }

    private static final class Case {
        final List<Long> supplies = new ArrayList<>();
        final List<Arc> arcs = new ArrayList<>();
        final CostFlow x = usedOrNew();

        /** Nearly always the object of the nets before it, so that what they left behind would show. */
        private static CostFlow usedOrNew() {
            if (++made % 100 == 0) {
                used = new CostFlow();
            }
            used.clear();
            return used;
        }

        void node(long supply) {
            due("node", x.node(supply), supplies.size());
            supplies.add(supply);
        }

        void arc(int from, int to, long low, long most, long cost) {
            Arc arc = new Arc();
            arc.from = from;
            arc.to = to;
            arc.low = low;
            arc.most = most;
            arc.rates.add(cost);
            due("arc", x.arc(from, to, low, most, cost), arcs.size());
            arcs.add(arc);
        }

        void piece(int number, long mark, long cost) {
            Arc arc = arcs.get(number);
            long lastMark = arc.marks.isEmpty() ? arc.low : arc.marks.get(arc.marks.size() - 1);
            boolean fits = arc.marks.size() < 3 && mark > lastMark && mark <= 1000000
                && (arc.endless() || mark < arc.most) && cost >= arc.last() && cost <= 1000000;
            due("piece", x.piece(number, mark, cost), fits ? arc.marks.size() + 1 : NONE);
            if (fits) {
                arc.marks.add(mark);
                arc.rates.add(cost);
            }
        }
    }

    /** size: how large bounds are; cost: how large costs are. Most have a FLOW, that by which supplies are made. */
    private static Case byChance(Random random, int nodes, int arcs, int size, int cost) {
        Case c = new Case();
        long[] supplies = new long[nodes];
        long[][] told = new long[arcs][];
        int endlessOf = 1 + random.nextInt(5);
        int lowOf = 1 + random.nextInt(12);
        int flowOf = 1 + random.nextInt(4);
        int fallOf = 1 + random.nextInt(30);
        boolean positive = random.nextInt(3) == 0;
        for (int k = 0; k < arcs; k++) {
            int from = random.nextInt(nodes);
            int to = (from + 1 + random.nextInt(nodes - 1)) % nodes;
            long low = random.nextInt(lowOf) == 0 ? random.nextInt(size / 2 + 1) : 0;
            boolean endless = random.nextInt(endlessOf) == 0;
            long most = endless ? ENDLESS : low + random.nextInt(size - (int) low + 1);
            long rate = random.nextInt(2 * cost + 1) - cost;
            if (positive || endless && random.nextInt(fallOf) != 0) {
                rate = Math.abs(rate);
            }
            long room = endless ? size : most - low;
            long amount = low + (random.nextInt(flowOf) == 0 ? random.nextInt((int) room + 1) : 0);
            if (Math.abs(supplies[from] + amount) > 1000000 || Math.abs(supplies[to] - amount) > 1000000) {
                low = 0;
                amount = 0;
            }
            supplies[from] += amount;
            supplies[to] -= amount;
            told[k] = new long[] {from, to, low, most, rate};
        }
        spoil(random, supplies, size);
        for (long supply : supplies) {
            c.node(supply);
        }
        for (long[] arc : told) {
            c.arc((int) arc[0], (int) arc[1], arc[2], arc[3], arc[4]);
        }
        for (int k = random.nextInt(arcs + 1); k > 0; k--) {
            int number = random.nextInt(arcs);
            Arc arc = c.arcs.get(number);
            c.piece(number, arc.low + 1 + random.nextInt(size), Math.min(1000000, arc.last() + random.nextInt(cost + 1)));
        }
        return c;
    }

    private static void spoil(Random random, long[] supplies, int size) {
        int kind = random.nextInt(40);
        int from = random.nextInt(supplies.length);
        int to = random.nextInt(supplies.length);
        long amount = kind == 0 ? 1 : kind < 10 ? random.nextInt(size) + 1 : 0;
        if (supplies[from] + amount <= 1000000 && supplies[to] - amount >= -1000000) {
            supplies[from] += amount;
            supplies[to] -= kind == 0 ? 0 : amount;
        }
    }

    /** The same net with something else told. */
    private static void alter(Case c, Random random) {
        int number = random.nextInt(c.arcs.size());
        Arc arc = c.arcs.get(number);
        int kind = random.nextInt(4);
        if (kind == 0) {
            long mark = (arc.marks.isEmpty() ? arc.low : arc.marks.get(arc.marks.size() - 1)) + 1;
            c.piece(number, mark, Math.min(1000000, arc.last() + random.nextInt(3)));
        } else if (kind == 1 && arc.marks.isEmpty()) {
            arc.rates.set(0, (long) random.nextInt(9) - 2);
            due("price", c.x.price(number, arc.last()) ? 1 : 0, 1);
        } else if (kind == 2) {
            c.arc(arc.to, arc.from, 0, random.nextInt(4), random.nextInt(9) - 4);
        } else {
            changeSupply(c, arc.from, 1);
            changeSupply(c, arc.to, -1);
        }
    }

    private static void changeSupply(Case c, int node, int by) {
        long before = c.supplies.get(node);
        due("supply", c.x.supply(node, before + by), before);
        c.supplies.set(node, before + by);
    }

    // ---- what the document asks, found by trying everything ----

    private static long excessOf(Case c, int members) {
        long excess = 0;
        for (int node = 0; node < c.supplies.size(); node++) {
            excess += (members >> node & 1) == 1 ? c.supplies.get(node) : 0;
        }
        for (Arc arc : c.arcs) {
            boolean from = (members >> arc.from & 1) == 1;
            boolean to = (members >> arc.to & 1) == 1;
            if (from && !to && arc.endless()) {
                return -FAR;
            }
            excess += !from && to ? arc.low : from && !to ? -arc.most : 0;
        }
        return excess;
    }

    /** THE SET as bits; 0 when there is a FLOW. */
    private static int setOf(Case c) {
        int all = (1 << c.supplies.size()) - 1;
        long total = 0;
        for (long supply : c.supplies) {
            total += supply;
        }
        if (total != 0) {
            return all;
        }
        long greatest = 0;
        int least = 0;
        for (int members = 1; members <= all; members++) {
            long excess = excessOf(c, members);
            if (excess > greatest) {
                greatest = excess;
                least = members;
            } else if (excess == greatest) {
                least &= members;
            }
        }
        if (greatest == 0) {
            return 0;
        }
        due("excess of what lies in all sets", excessOf(c, least), greatest);
        return least;
    }

    private static void ringsFrom(Case c, List<Integer> ring, int at, int seen, long sum, List<List<Integer>> best) {
        Arc first = c.arcs.get(ring.get(0));
        if (!best.isEmpty() && ring.size() > best.get(0).size()) {
            return;
        }
        if (at == first.from) {
            if (sum < 0) {
                takeRing(ring, best);
            }
            return;
        }
        for (int k = ring.get(0) + 1; k < c.arcs.size(); k++) {
            Arc arc = c.arcs.get(k);
            if (arc.endless() && arc.from == at && (seen >> arc.to & 1) == 0) {
                ring.add(k);
                ringsFrom(c, ring, arc.to, seen | 1 << arc.to, sum + arc.last(), best);
                ring.remove(ring.size() - 1);
            }
        }
    }

    private static void takeRing(List<Integer> ring, List<List<Integer>> best) {
        if (!best.isEmpty()) {
            List<Integer> other = best.get(0);
            if (ring.size() > other.size()) {
                return;
            }
            if (ring.size() == other.size()) {
                int k = 0;
                while (k < ring.size() && ring.get(k).equals(other.get(k))) {
                    k++;
                }
                if (k == ring.size() || ring.get(k) > other.get(k)) {
                    return;
                }
            }
        }
        best.clear();
        best.add(new ArrayList<>(ring));
    }

    private static List<Integer> ringOf(Case c) {
        List<List<Integer>> best = new ArrayList<>();
        for (int k = 0; k < c.arcs.size(); k++) {
            Arc arc = c.arcs.get(k);
            if (arc.endless()) {
                List<Integer> ring = new ArrayList<>(List.of(k));
                ringsFrom(c, ring, arc.to, 1 << arc.to, arc.last(), best);
            }
        }
        return best.isEmpty() ? null : best.get(0);
    }

    private static long[] bestFlow;
    private static long bestCost;

    /** Tries all amounts on all ARCS, those with least on ARC 0 first: the first flow of least cost is THE FLOW. */
    private static void tryFlows(Case c, int k, long[] on, long[] left, long cost, long cap) {
        if (k == c.arcs.size()) {
            for (long rest : left) {
                if (rest != 0) {
                    return;
                }
            }
            if (bestFlow == null || cost < bestCost) {
                bestFlow = on.clone();
                bestCost = cost;
            }
            return;
        }
        for (int node = 0; node < left.length; node++) {
            boolean still = left[node] == 0;
            for (int later = k; later < c.arcs.size() && !still; later++) {
                still = c.arcs.get(later).from == node || c.arcs.get(later).to == node;
            }
            if (!still) {
                return;
            }
        }
        Arc arc = c.arcs.get(k);
        long most = arc.endless() ? cap : arc.most;
        for (long amount = arc.low; amount <= most; amount++) {
            on[k] = amount;
            left[arc.from] -= amount;
            left[arc.to] += amount;
            tryFlows(c, k + 1, on, left, cost + arc.costOf(amount), cap);
            left[arc.from] += amount;
            left[arc.to] -= amount;
        }
    }

    private static void findFlow(Case c) {
        long cap = 1;
        for (long supply : c.supplies) {
            cap += Math.max(0, supply);
        }
        for (Arc arc : c.arcs) {
            cap += arc.low + (arc.endless() ? arc.marks.isEmpty() ? 0 : arc.marks.get(arc.marks.size() - 1) : arc.most);
        }
        long[] left = new long[c.supplies.size()];
        for (int node = 0; node < left.length; node++) {
            left[node] = c.supplies.get(node);
        }
        bestFlow = null;
        tryFlows(c, 0, new long[c.arcs.size()], left, 0, Math.min(cap, 14));
    }

    // ---- what must hold ----

    /** A way: from, to, cost and the ARC, + 1 along it, - 1 against it. */
    private record Way(int from, int to, long cost, int arc, int sign) {
    }

    private static List<Way> waysOf(Case c, long[] on) {
        List<Way> ways = new ArrayList<>();
        for (int k = 0; k < on.length; k++) {
            Arc arc = c.arcs.get(k);
            if (arc.endless() || on[k] < arc.most) {
                ways.add(new Way(arc.from, arc.to, arc.unit(on[k] + 1), k, 1));
            }
            if (on[k] > arc.low) {
                ways.add(new Way(arc.to, arc.from, -arc.unit(on[k]), k, -1));
            }
        }
        return ways;
    }

    private static long[] distances(List<Way> ways, long[] start, int leftOut) {
        long[] cost = start.clone();
        for (int round = 0; round < start.length; round++) {
            for (Way way : ways) {
                if (way.arc() != leftOut && cost[way.from()] != FAR) {
                    cost[way.to()] = Math.min(cost[way.to()], cost[way.from()] + way.cost());
                }
            }
        }
        return cost;
    }

    /** Whether no ring of ways has a lower cost, nor the same cost and less on an ARC with more on later ones only. */
    private static boolean isTheFlow(List<Way> ways, int nodes, int arcs) {
        BigInteger[] price = new BigInteger[nodes];
        Arrays.fill(price, BigInteger.ZERO);
        boolean lower = true;
        for (int round = 0; lower && round <= nodes; round++) {
            lower = false;
            for (Way way : ways) {
                BigInteger weight = BigInteger.ONE.shiftLeft(2 * (arcs - 1 - way.arc()));
                BigInteger cost = BigInteger.valueOf(way.cost()).shiftLeft(2 * arcs)
                    .add(way.sign() > 0 ? weight : weight.negate()).add(price[way.from()]);
                if (cost.compareTo(price[way.to()]) < 0) {
                    price[way.to()] = cost;
                    lower = true;
                }
            }
        }
        return !lower;
    }

    private static long[] flowOf(Case c) {
        long[] on = new long[c.arcs.size()];
        for (int k = 0; k < on.length; k++) {
            on[k] = c.x.on(k);
        }
        return on;
    }

    private static void checkBest(String name, Case c, Random random) {
        long[] on = flowOf(c);
        long[] left = new long[c.supplies.size()];
        long cost = 0;
        for (int node = 0; node < left.length; node++) {
            left[node] = c.supplies.get(node);
        }
        for (int k = 0; k < on.length; k++) {
            Arc arc = c.arcs.get(k);
            due(name + " within bounds " + k, on[k] >= arc.low && (arc.endless() || on[k] <= arc.most) ? 1 : 0, 1);
            left[arc.from] -= on[k];
            left[arc.to] += on[k];
            cost += arc.costOf(on[k]);
        }
        for (long rest : left) {
            due(name + " balance", rest, 0);
        }
        due(name + " cost", c.x.cost(), cost);
        due(name + " check", c.x.check(), 1);
        List<Way> ways = waysOf(c, on);
        due(name + " is THE FLOW", isTheFlow(ways, left.length, on.length) ? 1 : 0, 1);
        long[] prices = distances(ways, new long[left.length], NONE);
        for (int node = 0; node < left.length; node++) {
            due(name + " potential " + node, c.x.potential(node), prices[node]);
        }
        for (int k = 0; k < on.length; k++) {
            checkLimits(name, c, k, on[k], ways, random);
        }
    }

    private static long distance(List<Way> ways, int nodes, int from, int to, int leftOut) {
        long[] start = new long[nodes];
        Arrays.fill(start, FAR);
        start[from] = 0;
        return distances(ways, start, leftOut)[to];
    }

    private static void checkLimits(String name, Case c, int k, long on, List<Way> ways, Random random) {
        Arc arc = c.arcs.get(k);
        if (!arc.marks.isEmpty()) {
            due(name + " span with pieces", c.x.span(k, 0) + c.x.span(k, 1), -2000000002L);
            due(name + " keeps with pieces", c.x.keeps(k, arc.last()) ? 1 : 0, 0);
            return;
        }
        int nodes = c.supplies.size();
        long back = arc.endless() || on < arc.most ? distance(ways, nodes, arc.to, arc.from, k) : FAR;
        long along = on > arc.low ? distance(ways, nodes, arc.from, arc.to, k) : FAR;
        due(name + " span " + k + " 0", c.x.span(k, 0), back == FAR ? -1000000002L : -back);
        due(name + " span " + k + " 1", c.x.span(k, 1), along == FAR ? -1000000002L : along);
        long[] tries = {arc.last(), random.nextInt(2000001) - 1000000, -back, -back - 1, along, along + 1,
            Long.MIN_VALUE, Long.MAX_VALUE};
        for (long rate : tries) {
            boolean keeps = (back == FAR || rate >= -back) && (along == FAR || rate <= along);
            due(name + " keeps " + k + " " + rate, c.x.keeps(k, rate) ? 1 : 0, keeps ? 1 : 0);
        }
    }

    /** keeps() against another run with that COST. */
    private static void checkKeeps(String name, Case c, Random random) {
        int k = random.nextInt(c.arcs.size());
        Arc arc = c.arcs.get(k);
        if (!arc.marks.isEmpty()) {
            return;
        }
        long before = arc.last();
        long end = random.nextInt(2);
        long limit = c.x.span(k, (int) end);
        long rate = limit < -1000000 || limit > 1000000 || random.nextInt(3) == 0
            ? before + random.nextInt(5) - 2 : limit + random.nextInt(3) - 1;
        if (rate < -1000000 || rate > 1000000) {
            return;
        }
        boolean keeps = c.x.keeps(k, rate);
        long cost = c.x.cost() + c.x.on(k) * (rate - before);
        due(name + " price", c.x.price(k, rate) ? 1 : 0, 1);
        int answer = c.x.run(random.nextInt(3));
        due(name + " keeps and another run", keeps ? 1 : 0, answer == 0 && c.x.cost() == cost ? 1 : 0);
        c.x.price(k, before);
    }

    private static void checkNotBest(String name, Case c, int members, List<Integer> ring) {
        due(name + " told(3)", c.x.told(3), ring == null ? 0 : ring.size());
        for (int k = 0; ring != null && k < ring.size(); k++) {
            due(name + " ring " + k, c.x.ring(k), ring.get(k));
        }
        due(name + " ring's end", c.x.ring(ring == null ? 0 : ring.size()), NONE);
        int count = 0;
        for (int node = 0; node < c.supplies.size(); node++) {
            if ((members >> node & 1) == 1) {
                due(name + " set " + count, c.x.set(count), node);
                count++;
            }
        }
        due(name + " told(4)", c.x.told(4), count);
        due(name + " set's end", c.x.set(count), NONE);
    }

    /** Rings in plenty: nodes in a round with ARCS from each to the next, and others, ENDLESS nearly all. */
    private static Case ringsByChance(Random random) {
        Case c = new Case();
        int nodes = 2 + random.nextInt(7);
        int arcs = nodes + random.nextInt(nodes + 3);
        for (int node = 0; node < nodes; node++) {
            c.node(0);
        }
        int[] order = random.ints(arcs, 0, nodes).toArray();
        int least = 1 + random.nextInt(3);
        for (int k = 0; k < arcs; k++) {
            int from = k < nodes && random.nextInt(4) != 0 ? k : order[k];
            int to = (from + (random.nextInt(3) != 0 ? 1 : 1 + random.nextInt(nodes - 1))) % nodes;
            c.arc(from, to, 0, random.nextInt(10) == 0 ? 3 : ENDLESS, random.nextInt(6) - least);
        }
        for (int k = random.nextInt(4); k > 0; k--) {
            int number = random.nextInt(arcs);
            c.piece(number, 1 + random.nextInt(4), c.arcs.get(number).last() + random.nextInt(2));
        }
        return c;
    }

    /** Supplies that no FLOW has made, on more nodes, so that sets are large. */
    private static Case setsByChance(Random random) {
        Case c = new Case();
        int nodes = 3 + random.nextInt(8);
        int size = 1 + random.nextInt(6);
        long total = 0;
        for (int node = 0; node < nodes; node++) {
            long supply = node == nodes - 1 ? -total : random.nextInt(2 * size + 1) - size;
            c.node(supply);
            total += supply;
        }
        for (int k = random.nextInt(30); k >= 0; k--) {
            int from = random.nextInt(nodes);
            int to = (from + 1 + random.nextInt(nodes - 1)) % nodes;
            long low = random.nextInt(3) == 0 ? random.nextInt(size) : 0;
            c.arc(from, to, low, random.nextInt(4) == 0 ? ENDLESS : low + random.nextInt(size), random.nextInt(5) - 1);
        }
        return c;
    }

    private static void small(int seed, int nodes, int arcs, int size, boolean flows) {
        Random random = new Random(seed);
        Case c = byChance(random, nodes, arcs, size, 4);
        compare(seed, c, random, flows);
        for (int turn = 0; turn < 2; turn++) {
            alter(c, random);
            compare(seed, c, random, false);
        }
    }

    private static void compare(int seed, Case c, Random random, boolean flows) {
        int members = setOf(c);
        List<Integer> ring = members == 0 ? ringOf(c) : null;
        int want = members != 0 ? 2 : ring != null ? 1 : 0;
        met[want]++;
        if (flows && want == 0) {
            findFlow(c);
        }
        for (int way = 0; way < 3; way++) {
            String name = "small " + seed + " way " + way;
            due(name, c.x.run(way), want);
            due(name + " told(6)", c.x.told(6), want);
            checkNotBest(name, c, members, ring);
            if (want == 0) {
                checkBest(name, c, random);
                for (int k = 0; flows && k < c.arcs.size(); k++) {
                    due(name + " on " + k, c.x.on(k), bestFlow == null ? -99 : bestFlow[k]);
                }
            } else {
                due(name + " check", c.x.check(), NONE);
            }
        }
        if (want == 0) {
            checkKeeps("small " + seed, c, random);
        }
    }

    // ---- THE SET and THE RING of nets that are too large for trying everything ----

    /** What can still be reached from where there is too much, once as much as can go has gone. */
    private static int largeSetOf(Case c) {
        int nodes = c.supplies.size();
        long[] left = new long[nodes];
        long[][] room = new long[nodes][nodes];
        long total = 0;
        for (int node = 0; node < nodes; node++) {
            left[node] = c.supplies.get(node);
            total += left[node];
        }
        for (Arc arc : c.arcs) {
            left[arc.from] -= arc.low;
            left[arc.to] += arc.low;
            room[arc.from][arc.to] += arc.endless() ? FAR / 100 : arc.most - arc.low;
        }
        if (total != 0) {
            return (1 << nodes) - 1;
        }
        int members = reach(left, room);
        while (members < 0) {
            members = reach(left, room);
        }
        return members;
    }

    /** Sends something to where it lacks and answers -1; where nothing can go, answers what was reached, as bits. */
    private static int reach(long[] left, long[][] room) {
        int nodes = left.length;
        int[] before = new int[nodes];
        Arrays.fill(before, -2);
        List<Integer> order = new ArrayList<>();
        for (int node = 0; node < nodes; node++) {
            if (left[node] > 0) {
                before[node] = -1;
                order.add(node);
            }
        }
        int members = 0;
        for (int k = 0; k < order.size(); k++) {
            int node = order.get(k);
            members |= 1 << node;
            if (left[node] < 0) {
                sendTo(node, before, left, room);
                return -1;
            }
            for (int next = 0; next < nodes; next++) {
                if (room[node][next] > 0 && before[next] == -2) {
                    before[next] = node;
                    order.add(next);
                }
            }
        }
        return members;
    }

    private static void sendTo(int node, int[] before, long[] left, long[][] room) {
        long amount = -left[node];
        int at = node;
        for (; before[at] >= 0; at = before[at]) {
            amount = Math.min(amount, room[before[at]][at]);
        }
        amount = Math.min(amount, left[at]);
        left[at] -= amount;
        left[node] += amount;
        for (at = node; before[at] >= 0; at = before[at]) {
            room[before[at]][at] -= amount;
            room[at][before[at]] += amount;
        }
    }

    private static long triesLeft;

    /** The rest of a ring of so many ARCS, lowest numbers first; the first that is found is THE RING. */
    private static boolean findRest(Case c, List<Integer> ring, int at, int seen, int length, long sum) {
        Arc first = c.arcs.get(ring.get(0));
        if (ring.size() == length) {
            return at == first.from && sum < 0;
        }
        for (int k = ring.get(0) + 1; k < c.arcs.size() && triesLeft > 0; k++) {
            Arc arc = c.arcs.get(k);
            boolean last = ring.size() == length - 1;
            if (arc.endless() && arc.from == at && (last ? arc.to == first.from : (seen >> arc.to & 1) == 0)) {
                triesLeft--;
                ring.add(k);
                if (findRest(c, ring, arc.to, seen | 1 << arc.to, length, sum + arc.last())) {
                    return true;
                }
                ring.remove(ring.size() - 1);
            }
        }
        return false;
    }

    /** THE RING; null when there are too many to try. */
    private static List<Integer> largeRingOf(Case c) {
        triesLeft = 100000;
        for (int length = 2; length <= c.supplies.size(); length++) {
            for (int k = 0; k < c.arcs.size() && triesLeft > 0; k++) {
                Arc arc = c.arcs.get(k);
                List<Integer> ring = new ArrayList<>(List.of(k));
                if (arc.endless() && findRest(c, ring, arc.to, 1 << arc.from | 1 << arc.to, length, arc.last())) {
                    return ring;
                }
            }
        }
        return null;
    }

    private static int ringsTried = 0;

    private static void checkLargeRing(String name, Case c) {
        long sum = 0;
        for (int k = 0; k < c.x.told(3); k++) {
            Arc arc = c.arcs.get(c.x.ring(k));
            due(name + " follows", arc.to, c.arcs.get(c.x.ring((k + 1) % c.x.told(3))).from);
            sum += arc.last();
        }
        due(name + " falls", sum < 0 ? 1 : 0, 1);
        List<Integer> ring = largeRingOf(c);
        if (ring != null) {
            ringsTried++;
            checkNotBest(name, c, 0, ring);
        }
    }

    /** Two ARCS or more from each node to one of the next, ENDLESS all: long rings, and many of them. */
    private static void largeRings(int seed) {
        Random random = new Random(seed);
        Case c = new Case();
        int nodes = 9 + random.nextInt(16);
        int wide = 1 + random.nextInt(4);
        int highest = 2 + random.nextInt(12);
        for (int node = 0; node < nodes; node++) {
            c.node(0);
        }
        for (int k = nodes * 2 + random.nextInt(20); k > 0; k--) {
            int from = random.nextInt(nodes);
            c.arc(from, (from + 1 + random.nextInt(wide)) % nodes, 0, ENDLESS, random.nextInt(highest) - 1);
        }
        int want = largeRingOf(c) == null ? 0 : 1;
        if (triesLeft == 0) {
            return;
        }
        met[want]++;
        for (int way = 0; way < 3; way++) {
            String name = "large ring " + seed + " way " + way;
            due(name, c.x.run(way), want);
            if (want == 1) {
                checkLargeRing(name, c);
            } else {
                checkBest(name, c, random);
            }
        }
    }

    private static void large(int seed, int size, int cost) {
        Random random = new Random(seed);
        int nodes = 2 + random.nextInt(23);
        int arcs = nodes + random.nextInt(81 - nodes);
        Case c = byChance(random, nodes, arcs, size, cost);
        int want = c.x.run(0);
        met[want]++;
        for (int way = 0; way < 3; way++) {
            String name = "large " + seed + " way " + way;
            due(name, c.x.run(way), want);
            if (want == 0) {
                checkBest(name, c, random);
            } else if (want == 1) {
                checkLargeRing(name, c);
            } else {
                checkNotBest(name, c, largeSetOf(c), null);
            }
        }
        if (want == 0) {
            checkKeeps("large " + seed, c, random);
        }
    }

    // ---- nets in which ways of least cost, one after the other, carry one unit each ----

    private static long[] stepped(int from, int to, long width, int parts, long rate, long step) {
        return new long[] {from, to, 0, width * parts, rate, width, step};
    }

    /**
     * Round a net that is full after some units, at rising costs, two nodes more: straight through it, then against
     * it, and so on in turn, so that it is filled and emptied again, a unit at a time. Answers how many units go, and
     * the last two nodes.
     */
    private static long[] manyWays(Random random, int levels, List<long[]> arcs, int[] number) {
        int most = random.nextInt(3) == 0 ? 4 : 1 + random.nextInt(4);
        long units = most;
        long costs = units;
        int begin = number[0];
        int end = number[1];
        arcs.add(stepped(begin, end, 1, most, 0, 1));
        for (int level = 1; level <= levels; level++) {
            int parts = (int) Math.min(most, Math.min(1000000 / units, 1000000 / (costs + 1)));
            if (parts == 0) {
                break;
            }
            arcs.add(stepped(number[2 * level], begin, units, parts, 0, costs + 1));
            arcs.add(stepped(end, number[2 * level + 1], units, parts, 0, costs + 1));
            arcs.add(stepped(number[2 * level], end, units, parts, costs, costs + 1));
            arcs.add(stepped(begin, number[2 * level + 1], units, parts, costs, costs + 1));
            begin = number[2 * level];
            end = number[2 * level + 1];
            units *= 2L * parts;
            costs = 2 * (costs + (parts - 1) * (costs + 1)) + 1;
        }
        return new long[] {units, begin, end};
    }

    private static Case manyWaysByChance(Random random, int levels) {
        int nodes = 2 * levels + 2;
        int[] number = new int[nodes];
        for (int k = 0; k < nodes; k++) {
            int other = random.nextInt(k + 1);
            number[k] = number[other];
            number[other] = k;
        }
        List<long[]> arcs = new ArrayList<>();
        long[] core = manyWays(random, levels, arcs, number);
        long units = core[0];
        long left = random.nextInt(4) == 0 ? 1 + random.nextInt((int) units) : units;
        long supply = random.nextInt(3) == 0 ? 0 : Math.min(left, 1000000);
        for (left -= supply; left > 0; left -= Math.min(left, 1000000)) {
            // What must come back from the end goes through the net as well.
            arcs.add(new long[] {core[2], core[1], Math.min(left, 1000000), 1000000, 5, 1000000, 0});
        }
        for (int k = arcs.size() - 1; k > 0; k--) {
            long[] arc = arcs.get(k);
            int other = random.nextInt(k + 1);
            arcs.set(k, arcs.get(other));
            arcs.set(other, arc);
        }
        Case c = new Case();
        for (int node = 0; node < nodes; node++) {
            c.node(node == core[1] ? supply : node == core[2] ? -supply : 0);
        }
        for (int k = 0; k < arcs.size(); k++) {
            long[] arc = arcs.get(k);
            c.arc((int) arc[0], (int) arc[1], arc[2], arc[3], arc[4]);
            for (int part = 1; part * arc[5] < arc[3]; part++) {
                c.piece(k, part * arc[5], arc[4] + part * arc[6]);
            }
        }
        return c;
    }

    private static void many(int seed, int levels) {
        Random random = new Random(seed);
        Case c = manyWaysByChance(random, levels);
        for (int way = 0; way < 3; way++) {
            String name = "many ways " + seed + " way " + way;
            due(name, c.x.run(way), 0);
            checkBest(name, c, random);
        }
    }

    // ---- assignments ----

    private static long leastSum;
    private static int[] leastMates;

    private static void tryMates(Long[][] costs, int i, int[] mates, int used, long sum) {
        if (i == costs.length) {
            if (leastMates == null || sum < leastSum) {
                leastSum = sum;
                leastMates = mates.clone();
            }
            return;
        }
        for (int j = 0; j < costs.length; j++) {
            if ((used >> j & 1) == 0 && costs[i][j] != null) {
                mates[i] = j;
                tryMates(costs, i + 1, mates, used | 1 << j, sum + costs[i][j]);
            }
        }
    }

    private static void pairing(int seed) {
        Random random = new Random(seed);
        CostFlow x = new CostFlow();
        int n = 1 + random.nextInt(seed % 20 == 0 ? 8 : 6);
        int size = random.nextBoolean() ? 3 : 1000000;
        due("assign", x.assign(n) ? 1 : 0, 1);
        Long[][] costs = new Long[n][n];
        for (int turn = 0; turn < 3; turn++) {
            for (int k = 0; k < n * n; k++) {
                int i = random.nextInt(n);
                int j = random.nextInt(n);
                costs[i][j] = (long) random.nextInt(2 * size + 1) - size;
                due("put", x.put(i, j, costs[i][j]) ? 1 : 0, 1);
            }
            leastMates = null;
            tryMates(costs, 0, new int[n], 0, 0);
            for (int i = 0; i < n; i++) {
                due("pairing " + seed + " mate " + i, x.mate(i), leastMates == null ? NONE : leastMates[i]);
            }
            due("pairing " + seed + " least", x.least(), leastMates == null ? -10000001L : leastSum);
        }
    }

    public static void main(String[] args) {
        for (int seed = 0; seed < 3000; seed++) {
            small(seed, 2 + seed % 3, 1 + seed % 5, 3, true);
        }
        for (int seed = 3000; seed < 9000; seed++) {
            small(seed, 2 + seed % 7, 1 + seed % 15, 1 + seed % 11, false);
        }
        for (int seed = 20000; seed < 23000; seed++) {
            Random random = new Random(seed);
            compare(seed, ringsByChance(random), random, false);
            compare(seed, setsByChance(random), random, false);
        }
        for (int seed = 9000; seed < 9500; seed++) {
            large(seed, 1000000, 1000000);
            large(seed + 1000, 20, 3);
        }
        for (int seed = 30000; seed < 30300; seed++) {
            largeRings(seed);
        }
        for (int seed = 0; seed < 120; seed++) {
            many(seed, 1 + seed % 11);
        }
        for (int seed = 0; seed < 1000; seed++) {
            pairing(seed);
        }
        System.out.println("nets by chance: " + met[0] + " BEST, " + met[1] + " FALLS, " + met[2] + " CAN'T; "
            + ringsTried + " rings of large ones");
        System.out.println(wrong == 0 ? "all answers are as due" : wrong + " answers are not as due");
        if (wrong != 0 || met[0] < 5000 || met[1] < 1000 || met[2] < 3000 || ringsTried < 100) {
            System.exit(1);
        }
    }
}
