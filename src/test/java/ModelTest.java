import java.math.BigInteger;
import java.util.ArrayList;
import java.util.Arrays;
import java.util.List;
import java.util.Random;

/**
 * Runs of calls by chance (from fixed seeds), each answer against a model: the document once more, in the plainest
 * form, by trying all sets, rings and assignments, and by other means than the class has for THE FLOW and LIMITS.
 */
public final class ModelTest {
    private static final int NONE = -1;
    private static final int ENDLESS = -2;
    private static final long LARGEST = 1000000;
    private static final int CALLS = 512;
    private static int wrong = 0;
    private static final int[] answers = new int[4];

    private static final class Arc {
        int from;
        int to;
        long low;
        long most;
        final List<Long> marks = new ArrayList<>();
        final List<Long> costs = new ArrayList<>();

        /** What the unit after so many costs. */
        long nextCost(long units) {
            int part = 0;
            while (part < marks.size() && units >= marks.get(part)) {
                part++;
            }
            return costs.get(part);
        }

        long lastCost() {
            return costs.get(costs.size() - 1);
        }

        boolean isEndless() {
            return most == ENDLESS;
        }

        /** How many units may go one way or the other until it ends or they cost something else. */
        long roomAlong(long units) {
            long room = isEndless() ? Long.MAX_VALUE : most - units;
            for (long mark : marks) {
                room = mark > units ? Math.min(room, mark - units) : room;
            }
            return room;
        }

        long roomAgainst(long units) {
            long room = units - low;
            for (long mark : marks) {
                room = mark < units ? Math.min(room, units - mark) : room;
            }
            return room;
        }
    }

    /** A change of THE FLOW by one unit: along an ARC (by = 1) or against it (by = -1). */
    private record Way(int from, int to, int arc, int by, BigInteger cost) { }

    private static final class Model {
        final List<Long> supplies = new ArrayList<>();
        final List<Arc> arcs = new ArrayList<>();
        int answer = NONE;
        long[] flow = new long[0];
        List<Integer> ring = new ArrayList<>();
        List<Integer> set = new ArrayList<>();
        Long[][] pairs = new Long[0][0];

        // ---- what is told ----

        private static boolean usual(long number) {
            return -LARGEST <= number && number <= LARGEST;
        }

        private boolean isNode(int node) {
            return 0 <= node && node < supplies.size();
        }

        private boolean isArc(int arc) {
            return 0 <= arc && arc < arcs.size();
        }

        private boolean isPlain(int arc) {
            return isArc(arc) && arcs.get(arc).marks.isEmpty();
        }

        private void gone() {
            answer = NONE;
            ring = new ArrayList<>();
            set = new ArrayList<>();
        }

        int node(long supply) {
            if (supplies.size() == 24 || !usual(supply)) {
                return NONE;
            }
            gone();
            supplies.add(supply);
            return supplies.size() - 1;
        }

        int arc(int from, int to, long low, long most, long cost) {
            boolean ends = isNode(from) && isNode(to) && from != to;
            boolean bounds = 0 <= low && low <= LARGEST && (most == ENDLESS || low <= most && most <= LARGEST);
            if (!ends || !bounds || !usual(cost) || arcs.size() == 80) {
                return NONE;
            }
            gone();
            Arc arc = new Arc();
            arc.from = from;
            arc.to = to;
            arc.low = low;
            arc.most = most;
            arc.costs.add(cost);
            arcs.add(arc);
            return arcs.size() - 1;
        }

        int piece(int number, long mark, long cost) {
            if (!isArc(number)) {
                return NONE;
            }
            Arc arc = arcs.get(number);
            int has = arc.marks.size();
            boolean rises = mark > arc.low && (has == 0 || mark > arc.marks.get(has - 1));
            boolean ends = mark <= LARGEST && (arc.isEndless() || mark < arc.most);
            if (has == 3 || !rises || !ends || cost < arc.lastCost() || cost > LARGEST) {
                return NONE;
            }
            gone();
            arc.marks.add(mark);
            arc.costs.add(cost);
            return has + 1;
        }

        long supply(int node, long supply) {
            if (!isNode(node) || !usual(supply)) {
                return -1000001;
            }
            gone();
            return supplies.set(node, supply);
        }

        boolean price(int arc, long cost) {
            if (!isPlain(arc) || !usual(cost)) {
                return false;
            }
            gone();
            arcs.get(arc).costs.set(0, cost);
            return true;
        }

        void clear() {
            gone();
            supplies.clear();
            arcs.clear();
            pairs = new Long[0][0];
        }

        // ---- runs ----

        int run(int way) {
            if (way < 0 || way > 2) {
                return NONE;
            }
            gone();
            set = setThatCannot();
            ring = set.isEmpty() ? firstRing() : ring;
            answer = !set.isEmpty() ? 2 : !ring.isEmpty() ? 1 : 0;
            if (answer == 0) {
                flow = theFlow();
            }
            return answer;
        }

        /** THE SET, or nothing where there is a FLOW. */
        private List<Integer> setThatCannot() {
            int all = (1 << supplies.size()) - 1;
            long sum = 0;
            for (long supply : supplies) {
                sum += supply;
            }
            if (sum != 0) {
                return members(all);
            }
            long greatest = 0;
            int inAll = 0;
            for (int bits = 1; bits <= all; bits++) {
                Long excess = excess(bits);
                if (excess != null && excess > greatest) {
                    greatest = excess;
                    inAll = bits;
                } else if (excess != null && excess == greatest) {
                    inAll &= bits;
                }
            }
            return greatest > 0 ? members(inAll) : new ArrayList<>();
        }

        private List<Integer> members(int bits) {
            List<Integer> members = new ArrayList<>();
            for (int node = 0; node < supplies.size(); node++) {
                if ((bits >> node & 1) == 1) {
                    members.add(node);
                }
            }
            return members;
        }

        private Long excess(int bits) {
            long excess = 0;
            for (int node : members(bits)) {
                excess += supplies.get(node);
            }
            for (Arc arc : arcs) {
                boolean from = (bits >> arc.from & 1) == 1;
                boolean to = (bits >> arc.to & 1) == 1;
                if (from && !to && arc.isEndless()) {
                    return null;
                }
                excess += !from && to ? arc.low : from && !to ? -arc.most : 0;
            }
            return excess;
        }

        /** THE RING, or nothing without one. */
        private List<Integer> firstRing() {
            for (int length = 2; length <= supplies.size(); length++) {
                for (int first = 0; first < arcs.size(); first++) {
                    List<Integer> found = new ArrayList<>();
                    if (closes(found, first, length, 0)) {
                        return found;
                    }
                }
            }
            return new ArrayList<>();
        }

        /** Whether the ring that is found so far can go on with an ARC, so many being left. */
        private boolean closes(List<Integer> found, int number, int left, long sum) {
            Arc arc = arcs.get(number);
            int at = found.isEmpty() ? arc.from : arcs.get(found.get(found.size() - 1)).to;
            int start = found.isEmpty() ? arc.from : arcs.get(found.get(0)).from;
            if (!arc.isEndless() || arc.from != at || arc.to == start && left > 1) {
                return false;
            }
            for (int before : found) {
                if (arcs.get(before).from == arc.to && arc.to != start) {
                    return false;
                }
            }
            sum += arc.lastCost();
            found.add(number);
            if (left == 1 && arc.to == start && sum < 0) {
                return true;
            }
            for (int next = 0; left > 1 && next < arcs.size(); next++) {
                if (closes(found, next, left - 1, sum)) {
                    return true;
                }
            }
            found.remove(found.size() - 1);
            return false;
        }

        /** Costs in which a unit less on an ARC outweighs all that may be on later ones, and a unit of COST outweighs all. */
        private BigInteger weight(long cost, int arc) {
            BigInteger base = BigInteger.ONE.shiftLeft(40);
            return BigInteger.valueOf(cost).multiply(base.pow(arcs.size())).add(base.pow(arcs.size() - 1 - arc));
        }

        private List<Way> ways(long[] on, boolean weighted) {
            List<Way> ways = new ArrayList<>();
            for (int k = 0; k < arcs.size(); k++) {
                Arc arc = arcs.get(k);
                if (arc.isEndless() || on[k] < arc.most) {
                    long cost = arc.nextCost(on[k]);
                    ways.add(new Way(arc.from, arc.to, k, 1, weighted ? weight(cost, k) : BigInteger.valueOf(cost)));
                }
                if (on[k] > arc.low) {
                    long cost = arc.nextCost(on[k] - 1);
                    BigInteger whole = weighted ? weight(cost, k) : BigInteger.valueOf(cost);
                    ways.add(new Way(arc.to, arc.from, k, -1, whole.negate()));
                }
            }
            return ways;
        }

        private long room(Way way, long[] on) {
            Arc arc = arcs.get(way.arc);
            return way.by > 0 ? arc.roomAlong(on[way.arc]) : arc.roomAgainst(on[way.arc]);
        }

        private void change(List<Way> along, long[] on, long most) {
            long amount = most;
            for (Way way : along) {
                amount = Math.min(amount, room(way, on));
            }
            for (Way way : along) {
                on[way.arc] += way.by * amount;
            }
        }

        /** A FLOW, and rings of its WAYS along which the weighted cost falls. */
        private long[] theFlow() {
            long[] on = new long[arcs.size()];
            for (int k = 0; k < on.length; k++) {
                on[k] = arcs.get(k).low;
            }
            while (sendSome(on)) {
                // until each NODE has its SUPPLY
            }
            List<Way> falling = fallingRing(ways(on, true));
            while (!falling.isEmpty()) {
                change(falling, on, Long.MAX_VALUE);
                falling = fallingRing(ways(on, true));
            }
            return on;
        }

        private boolean sendSome(long[] on) {
            long[] left = new long[supplies.size()];
            for (int node = 0; node < left.length; node++) {
                left[node] = supplies.get(node);
            }
            for (int k = 0; k < on.length; k++) {
                left[arcs.get(k).from] -= on[k];
                left[arcs.get(k).to] += on[k];
            }
            for (int node = 0; node < left.length; node++) {
                if (left[node] > 0) {
                    sendFrom(node, left, on);
                    return true;
                }
            }
            return false;
        }

        /** By fewest WAYS, to where it lacks. */
        private void sendFrom(int node, long[] left, long[] on) {
            List<List<Way>> reached = new ArrayList<>();
            boolean[] seen = new boolean[left.length];
            seen[node] = true;
            reached.add(new ArrayList<>());
            for (int next = 0; next < reached.size(); next++) {
                List<Way> along = reached.get(next);
                int at = along.isEmpty() ? node : along.get(along.size() - 1).to;
                if (left[at] < 0) {
                    change(along, on, Math.min(left[node], -left[at]));
                    return;
                }
                for (Way way : ways(on, false)) {
                    if (way.from == at && !seen[way.to]) {
                        seen[way.to] = true;
                        List<Way> longer = new ArrayList<>(along);
                        longer.add(way);
                        reached.add(longer);
                    }
                }
            }
            throw new IllegalStateException("the model finds no FLOW where it has found no set that can't be served");
        }

        private List<Way> fallingRing(List<Way> ways) {
            BigInteger[] least = new BigInteger[supplies.size()];
            Way[] last = new Way[supplies.size()];
            Arrays.fill(least, BigInteger.ZERO);
            int lowered = NONE;
            for (int round = 0; round <= supplies.size(); round++) {
                lowered = NONE;
                for (Way way : ways) {
                    BigInteger cost = least[way.from].add(way.cost);
                    if (cost.compareTo(least[way.to]) < 0) {
                        least[way.to] = cost;
                        last[way.to] = way;
                        lowered = way.to;
                    }
                }
            }
            return lowered == NONE ? new ArrayList<>() : ringBefore(lowered, last);
        }

        private List<Way> ringBefore(int node, Way[] last) {
            int on = node;
            for (int step = 0; step < last.length; step++) {
                on = last[on].from;
            }
            List<Way> ring = new ArrayList<>();
            int at = on;
            do {
                ring.add(last[at]);
                at = last[at].from;
            } while (at != on);
            return ring;
        }

        // ---- what is asked of THE FLOW ----

        long cost() {
            long sum = 0;
            for (int k = 0; answer == 0 && k < arcs.size(); k++) {
                long unit = 0;
                while (unit < flow[k]) {
                    long some = Math.min(arcs.get(k).roomAlong(unit), flow[k] - unit);
                    sum += some * arcs.get(k).nextCost(unit);
                    unit += some;
                }
            }
            return sum;
        }

        long on(int arc) {
            return answer == 0 && isArc(arc) ? flow[arc] : NONE;
        }

        long potential(int node) {
            if (answer != 0 || !isNode(node)) {
                return 1;
            }
            long[][] least = new long[supplies.size()][supplies.size()];
            for (int from = 0; from < least.length; from++) {
                Arrays.fill(least[from], LARGEST * LARGEST);
                least[from][from] = 0;
            }
            for (Way way : ways(flow, false)) {
                least[way.from][way.to] = Math.min(least[way.from][way.to], way.cost.longValue());
            }
            for (int by = 0; by < least.length; by++) {
                for (int from = 0; from < least.length; from++) {
                    for (int to = 0; to < least.length; to++) {
                        least[from][to] = Math.min(least[from][to], least[from][by] + least[by][to]);
                    }
                }
            }
            long price = 0;
            for (int from = 0; from < least.length; from++) {
                price = Math.min(price, least[from][node]);
            }
            return price;
        }

        int check() {
            return answer == 0 ? 1 : NONE;
        }

        boolean keeps(int arc, long cost) {
            if (answer != 0 || !isPlain(arc)) {
                return false;
            }
            long before = arcs.get(arc).costs.set(0, cost);
            boolean keeps = fallingRing(ways(flow, false)).isEmpty();
            arcs.get(arc).costs.set(0, before);
            return keeps;
        }

        /** Halves what lies between a COST that keeps THE FLOW, the one it has, and one that does not. */
        long span(int arc, int end) {
            if (answer != 0 || !isPlain(arc) || end < 0 || end > 1) {
                return -1000000001;
            }
            long keeping = arcs.get(arc).costs.get(0);
            long beyond = end == 0 ? -900000000 : 900000000;
            if (keeps(arc, beyond)) {
                return -1000000002;
            }
            while (Math.abs(keeping - beyond) > 1) {
                long middle = Math.floorDiv(keeping + beyond, 2);
                if (keeps(arc, middle)) {
                    keeping = middle;
                } else {
                    beyond = middle;
                }
            }
            return keeping;
        }

        int ring(int k) {
            return 0 <= k && k < ring.size() ? ring.get(k) : NONE;
        }

        int set(int k) {
            return 0 <= k && k < set.size() ? set.get(k) : NONE;
        }

        // ---- the ASSIGNMENT ----

        boolean assign(int n) {
            if (n < 1 || n > 8) {
                return false;
            }
            pairs = new Long[n][n];
            return true;
        }

        boolean put(int i, int j, long cost) {
            boolean there = 0 <= i && i < pairs.length && 0 <= j && j < pairs.length;
            if (!there || !usual(cost)) {
                return false;
            }
            pairs[i][j] = cost;
            return true;
        }

        private long[] bestMates;

        /** In the order of whom 0 has, then 1, and so on, so that the first of the cheapest is the one. */
        private void tryMates(long[] mates, int i, long sum) {
            if (i == pairs.length) {
                if (bestMates == null || sum < bestMates[i]) {
                    bestMates = Arrays.copyOf(mates, i + 1);
                    bestMates[i] = sum;
                }
                return;
            }
            for (int j = 0; j < pairs.length; j++) {
                mates[i] = j;
                boolean taken = pairs[i][j] == null;
                for (int before = 0; before < i; before++) {
                    taken |= mates[before] == j;
                }
                if (!taken) {
                    tryMates(mates, i + 1, sum + pairs[i][j]);
                }
            }
        }

        private void findMates() {
            bestMates = null;
            if (pairs.length > 0) {
                tryMates(new long[pairs.length], 0, 0);
            }
        }

        int mate(int i) {
            findMates();
            return bestMates != null && 0 <= i && i < pairs.length ? (int) bestMates[i] : NONE;
        }

        long least() {
            findMates();
            return bestMates != null ? bestMates[pairs.length] : -10000001;
        }

        int told(int what) {
            int pieces = 0;
            for (Arc arc : arcs) {
                pieces += arc.marks.size();
            }
            int[] counts = {supplies.size(), arcs.size(), pieces, ring.size(), set.size(), pairs.length, answer};
            return 0 <= what && what < counts.length ? counts[what] : NONE;
        }
    }

    // ---- runs of calls ----

    private static final long[] ODD = {Long.MIN_VALUE, Integer.MIN_VALUE, -1000001, -1000000, -2, -1, 1000000, 1000001,
        Integer.MAX_VALUE, 1L << 32, Long.MAX_VALUE};

    private static final class Run {
        final Random random;
        final String name;
        final CostFlow x = new CostFlow();
        final Model model = new Model();
        final int nodes;
        final int arcs;
        final int endlessOf6;
        final int leastCost;
        int calls = 0;

        Run(int seed) {
            random = new Random(seed);
            name = "seed " + seed;
            nodes = 1 + random.nextInt(6);
            arcs = random.nextInt(14);
            endlessOf6 = random.nextInt(6);
            leastCost = -random.nextInt(6);
        }

        void due(String call, long got, long want) {
            calls++;
            if (got != want) {
                wrong++;
                System.out.println(name + ", call " + calls + ": " + call + " answered " + got + ", due is " + want);
            }
        }

        void due(String call, boolean got, boolean want) {
            due(call, got ? 1 : 0, want ? 1 : 0);
        }

        private boolean odd() {
            return random.nextInt(30) == 0;
        }

        private int number(int below) {
            return odd() ? (int) ODD[random.nextInt(ODD.length)] : random.nextInt(below + 1);
        }

        private long amount(int least, int most) {
            return odd() ? ODD[random.nextInt(ODD.length)] : least + random.nextInt(most - least + 1);
        }

        private long supply() {
            return random.nextInt(3) == 0 ? amount(-3, 3) : 0;
        }

        private void node() {
            long supply = supply();
            due("node(" + supply + ")", x.node(supply), model.node(supply));
        }

        private void arc() {
            int from = number(nodes - 1);
            int to = number(nodes - 1);
            long low = random.nextInt(4) == 0 ? amount(0, 2) : 0;
            long most = random.nextInt(6) < endlessOf6 ? ENDLESS : amount(0, 5);
            long cost = amount(leastCost, leastCost + 9);
            due("arc(" + from + ", " + to + ", " + low + ", " + most + ", " + cost + ")",
                x.arc(from, to, low, most, cost), model.arc(from, to, low, most, cost));
        }

        private void piece() {
            int arc = number(arcs);
            long mark = amount(1, 5);
            long cost = amount(leastCost, leastCost + 12);
            due("piece(" + arc + ", " + mark + ", " + cost + ")", x.piece(arc, mark, cost), model.piece(arc, mark, cost));
        }

        /** Most times what brings all SUPPLIES together to 0, so that there may be a FLOW. */
        private void supplyOf() {
            int node = number(nodes - 1);
            long supply = supply();
            if (random.nextInt(4) != 0 && model.isNode(node)) {
                supply = model.supplies.get(node);
                for (long each : model.supplies) {
                    supply -= each;
                }
            }
            due("supply(" + node + ", " + supply + ")", x.supply(node, supply), model.supply(node, supply));
        }

        private void price() {
            int arc = number(arcs);
            long cost = amount(leastCost, leastCost + 9);
            due("price(" + arc + ", " + cost + ")", x.price(arc, cost), model.price(arc, cost));
        }

        private void pairing() {
            if (random.nextInt(12) == 0) {
                int n = number(5);
                due("assign(" + n + ")", x.assign(n), model.assign(n));
                return;
            }
            int most = Math.max(model.pairs.length, 1);
            int i = number(most);
            int j = number(most);
            long cost = amount(-2, 3);
            due("put(" + i + ", " + j + ", " + cost + ")", x.put(i, j, cost), model.put(i, j, cost));
        }

        private void run() {
            int way = number(3);
            int got = x.run(way);
            due("run(" + way + ")", got, model.run(way));
            answers[got == NONE ? 3 : got]++;
        }

        private void clear() {
            calls++;
            x.clear();
            model.clear();
        }

        private void askNet() {
            int k = number(Math.max(nodes, arcs));
            int end = number(1);
            long cost = amount(-5, 10);
            switch (random.nextInt(8)) {
                case 0:
                    due("cost()", x.cost(), model.cost());
                    break;
                case 1:
                    due("on(" + k + ")", x.on(k), model.on(k));
                    break;
                case 2:
                    due("potential(" + k + ")", x.potential(k), model.potential(k));
                    break;
                case 3:
                    due("check()", x.check(), model.check());
                    break;
                case 4:
                    due("ring(" + end + ")", x.ring(end), model.ring(end));
                    due("ring(" + k + ")", x.ring(k), model.ring(k));
                    break;
                case 5:
                    due("set(" + end + ")", x.set(end), model.set(end));
                    due("set(" + k + ")", x.set(k), model.set(k));
                    break;
                case 6:
                    due("span(" + k + ", " + end + ")", x.span(k, end), model.span(k, end));
                    break;
                default:
                    due("keeps(" + k + ", " + cost + ")", x.keeps(k, cost), model.keeps(k, cost));
                    break;
            }
        }

        private void askOther() {
            int k = number(7);
            switch (random.nextInt(4)) {
                case 0:
                    due("mate(" + k + ")", x.mate(k), model.mate(k));
                    break;
                case 1:
                    due("least()", x.least(), model.least());
                    break;
                default:
                    due("told(" + k + ")", x.told(k), model.told(k));
                    break;
            }
        }

        private void tell() {
            if (model.supplies.size() < nodes) {
                node();
            } else if (model.arcs.size() < arcs && random.nextInt(3) != 0) {
                arc();
            } else if (random.nextInt(3) == 0) {
                piece();
            } else if (random.nextInt(2) == 0) {
                supplyOf();
            } else {
                price();
            }
        }

        void all() {
            // A call of askNet() may be two.
            while (calls < CALLS - 1) {
                int kind = random.nextInt(40);
                if (kind < 5 || model.supplies.size() < nodes && kind < 30) {
                    tell();
                } else if (kind < 8) {
                    run();
                } else if (kind < 30) {
                    askNet();
                } else if (kind < 34) {
                    pairing();
                } else if (kind < 39 || random.nextInt(8) != 0) {
                    askOther();
                } else {
                    clear();
                }
            }
        }
    }

    public static void main(String[] args) {
        int seeds = args.length > 0 ? Integer.parseInt(args[0]) : 4000;
        for (int seed = 0; seed < seeds; seed++) {
            new Run(seed).all();
        }
        System.out.println("runs: " + answers[0] + " BEST, " + answers[1] + " FALLS, " + answers[2] + " CAN'T");
        System.out.println(wrong == 0 ? "all answers are as due" : wrong + " answers are not as due");
        if (wrong != 0) {
            System.exit(1);
        }
    }
}
