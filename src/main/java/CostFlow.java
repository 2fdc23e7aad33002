import java.util.Arrays;

/** Flows through a net at least cost, with proofs and limits, and assignments: ../shared/DOC.md has the promises. */
public final class CostFlow {
    public static final int NONE = -1;
    public static final int ENDLESS = -2;

    private static final int BEST = 0;
    private static final int FALLS = 1;
    private static final int CANT = 2;

    private static final int MOST_NODES = 24;
    private static final int MOST_ARCS = 80;
    private static final int MOST_PARTS = 4;
    private static final int MOST_LANES = MOST_ARCS * MOST_PARTS;
    private static final int MOST_PAIRED = 8;
    private static final long LARGEST = 1000000L;

    // Stands for ENDLESS in sums. THE FLOW never has so much on an ARC: supplies and LOWS bring at most 92 million,
    // and a ring in it has an ARC that is full or not beyond its MARKS, so that rings bring at most 80 million. So the
    // least cost, THE FLOW and the PRICES are the same when this is the MOST of ENDLESS ARCS.
    private static final long PLENTY = 1000000000L;
    private static final long FAR = 1L << 60;
    private static final long GREAT_AMOUNT = 1L << 26;

    // Far above what any run can need, with 24 NODES and 320 lanes. Ways of fewest lanes: each of 688 ways is the one
    // that fills 13 times at most, so below 9000. Rings of least mean: 320 of them lessen the mean by a 24th, and from
    // 1000000 down to a 24th that is done 400 times, so below 130000. Great amounts: at most 688 of the amount at hand
    // are left by the one twice as great and 640 come from lanes that fall, so below 1400 for each amount.
    private static final int TURNS = 1000000;
    // Ways of least cost, one after the other, may be as many as there are units, over a hundred million. Nets by
    // chance need below 200; where this is not enough, what is left goes by great amounts first.
    private static final int PATIENCE = 10000;

    private static final long NO_SUPPLY = NONE - LARGEST;
    private static final long NO_BOUND = ENDLESS - 1000000000L;
    private static final long NO_LIMIT = NONE - 1000000000L;
    private static final long NO_PAIRING = NONE - 10000000L;

    // In the place of the way by which a search came to a NODE.
    private static final int UNSEEN = -2;
    private static final int START = -1;

    private final Net net;
    private final Lanes lanes;
    private final Ways ways;
    private final Router router;
    private final Prices prices;
    private final Paths paths;
    private final Rings rings;
    private final Falling falling;
    private final Unserved unserved;
    private final Pairing pairing;
    private int answer;

    public CostFlow() {
        net = new Net();
        lanes = new Lanes(net);
        ways = new Ways(net, lanes);
        router = new Router(net, lanes);
        prices = new Prices(net, lanes, ways);
        paths = new Paths(net, lanes, prices.values);
        rings = new Rings(net, lanes, ways);
        falling = new Falling(net);
        unserved = new Unserved(net);
        pairing = new Pairing();
        answer = NONE;
    }

    public int node(long supply) {
        if (net.nodes >= MOST_NODES || !isUsual(supply)) {
            return NONE;
        }
        forget();
        return net.addNode(supply);
    }

    public int arc(int from, int to, long low, long most, long cost) {
        if (!net.hasNode(from) || !net.hasNode(to) || from == to || net.arcs >= MOST_ARCS) {
            return NONE;
        }
        if (low < 0 || low > LARGEST || !isUsual(cost)) {
            return NONE;
        }
        if (most != ENDLESS && (most < low || most > LARGEST)) {
            return NONE;
        }
        forget();
        return net.addArc(from, to, low, most, cost);
    }

    public int piece(int arc, long mark, long cost) {
        if (!net.hasArc(arc) || !net.takesPiece(arc, mark, cost)) {
            return NONE;
        }
        forget();
        return net.addPiece(arc, mark, cost);
    }

    public long supply(int node, long supply) {
        if (!net.hasNode(node) || !isUsual(supply)) {
            return NO_SUPPLY;
        }
        forget();
        long before = net.supplies[node];
        net.supplies[node] = supply;
        return before;
    }

    public boolean price(int arc, long cost) {
        if (!net.isPlain(arc) || !isUsual(cost)) {
            return false;
        }
        forget();
        net.rates[arc * MOST_PARTS] = cost;
        return true;
    }

    public int run(int way) {
        if (way < 0 || way > 2) {
            return NONE;
        }
        forget();
        lanes.lay();
        answer = lookFor(way);
        return answer;
    }

    public long cost() {
        return answer == BEST ? lanes.sumOfCosts() : 0;
    }

    public long on(int arc) {
        return answer == BEST && net.hasArc(arc) ? lanes.amountOn(arc) : NONE;
    }

    public long potential(int node) {
        return answer == BEST && net.hasNode(node) ? prices.values[node] : 1;
    }

    public int check() {
        if (answer != BEST) {
            return NONE;
        }
        return prices.areProof() ? 1 : 0;
    }

    public int ring(int k) {
        return k >= 0 && k < falling.length ? falling.arcs[k] : NONE;
    }

    public int set(int k) {
        return k >= 0 && k < unserved.count ? unserved.members[k] : NONE;
    }

    public long span(int arc, int end) {
        if (answer != BEST || !net.isPlain(arc) || end < 0 || end > 1) {
            return NO_LIMIT;
        }
        return end == 0 ? prices.leastRate(arc) : prices.greatestRate(arc);
    }

    public boolean keeps(int arc, long cost) {
        if (answer != BEST || !net.isPlain(arc)) {
            return false;
        }
        long least = prices.leastRate(arc);
        long greatest = prices.greatestRate(arc);
        return (least == NO_BOUND || least <= cost) && (greatest == NO_BOUND || cost <= greatest);
    }

    public boolean assign(int n) {
        if (n < 1 || n > MOST_PAIRED) {
            return false;
        }
        pairing.begin(n);
        return true;
    }

    public boolean put(int i, int j, long cost) {
        if (!pairing.has(i) || !pairing.has(j) || !isUsual(cost)) {
            return false;
        }
        pairing.allow(i, j, cost);
        return true;
    }

    public int mate(int i) {
        return pairing.has(i) && pairing.isPossible() ? pairing.mates[i] : NONE;
    }

    public long least() {
        return pairing.isPossible() ? pairing.sums[0] : NO_PAIRING;
    }

    public int told(int what) {
        switch (what) {
            case 0:
                return net.nodes;
            case 1:
                return net.arcs;
            case 2:
                return net.pieces;
            case 3:
                return falling.length;
            case 4:
                return unserved.count;
            case 5:
                return pairing.size;
            case 6:
                return answer;
            default:
                return NONE;
        }
    }

    public void clear() {
        forget();
        net.empty();
        pairing.begin(0);
    }

    private static boolean isUsual(long number) {
        return number >= -LARGEST && number <= LARGEST;
    }

    private void forget() {
        answer = NONE;
        falling.length = 0;
        unserved.count = 0;
    }

    private int lookFor(int way) {
        if (net.sumOfSupplies() != 0) {
            unserved.takeAll();
            return CANT;
        }
        if (!router.findFlow()) {
            unserved.takeSeen(router.via);
            return CANT;
        }
        if (!prices.settleEndless()) {
            falling.seek();
            return FALLS;
        }
        if (way == 1) {
            rings.cancelAll();
        } else {
            lanes.unload();
            if (way == 2 || !paths.sendOneByOne()) {
                paths.sendGreatFirst();
            }
        }
        ways.gather();
        prices.measure();
        router.lessen(prices.values);
        ways.gather();
        return BEST;
    }

    /** What has been told: NODES, ARCS and their PIECES. A part of an ARC is what lies between two of its MARKS. */
    private static final class Net {
        final long[] supplies = new long[MOST_NODES];
        final int[] froms = new int[MOST_ARCS];
        final int[] tos = new int[MOST_ARCS];
        final boolean[] endless = new boolean[MOST_ARCS];
        final long[] tops = new long[MOST_ARCS];
        final int[] parts = new int[MOST_ARCS];
        final long[] starts = new long[MOST_LANES];
        final long[] rates = new long[MOST_LANES];
        int nodes;
        int arcs;
        int pieces;

        boolean hasNode(int node) {
            return node >= 0 && node < nodes;
        }

        boolean hasArc(int arc) {
            return arc >= 0 && arc < arcs;
        }

        boolean isPlain(int arc) {
            return hasArc(arc) && parts[arc] == 1;
        }

        int addNode(long supply) {
            supplies[nodes] = supply;
            nodes++;
            return nodes - 1;
        }

        int addArc(int from, int to, long low, long most, long rate) {
            froms[arcs] = from;
            tos[arcs] = to;
            endless[arcs] = most == ENDLESS;
            tops[arcs] = most == ENDLESS ? PLENTY : most;
            parts[arcs] = 1;
            starts[arcs * MOST_PARTS] = low;
            rates[arcs * MOST_PARTS] = rate;
            arcs++;
            return arcs - 1;
        }

        boolean takesPiece(int arc, long mark, long rate) {
            if (parts[arc] >= MOST_PARTS) {
                return false;
            }
            int last = lastPart(arc);
            return mark > starts[last] && mark < tops[arc] && mark <= LARGEST && rate >= rates[last] && rate <= LARGEST;
        }

        int addPiece(int arc, long mark, long rate) {
            int part = lastPart(arc) + 1;
            starts[part] = mark;
            rates[part] = rate;
            parts[arc]++;
            pieces++;
            return parts[arc] - 1;
        }

        long lowOf(int arc) {
            return starts[arc * MOST_PARTS];
        }

        long lastRate(int arc) {
            return rates[lastPart(arc)];
        }

        long endOf(int arc, int part) {
            return part + 1 < parts[arc] ? starts[arc * MOST_PARTS + part + 1] : tops[arc];
        }

        long sumOfSupplies() {
            long sum = 0;
            for (int node = 0; node < nodes; node++) {
                sum += supplies[node];
            }
            return sum;
        }

        void empty() {
            nodes = 0;
            arcs = 0;
            pieces = 0;
        }

        private int lastPart(int arc) {
            return arc * MOST_PARTS + parts[arc] - 1;
        }
    }

    /**
     * Each part of an ARC as a lane of its own, and what goes on it beyond LOW. The way 2 * lane goes along a lane,
     * 2 * lane + 1 against it.
     */
    private static final class Lanes {
        final Net net;
        final int[] firsts = new int[MOST_ARCS + 1];
        final int[] begins = new int[MOST_LANES];
        final int[] ends = new int[MOST_LANES];
        final long[] widths = new long[MOST_LANES];
        final long[] rates = new long[MOST_LANES];
        final long[] loads = new long[MOST_LANES];
        final long[] excess = new long[MOST_NODES];
        // The ways that begin at a node: sorted[heads[node]] up to, without, sorted[heads[node + 1]].
        final int[] heads = new int[MOST_NODES + 1];
        final int[] sorted = new int[2 * MOST_LANES];
        int count;

        Lanes(Net net) {
            this.net = net;
        }

        void lay() {
            count = 0;
            for (int arc = 0; arc < net.arcs; arc++) {
                firsts[arc] = count;
                for (int part = 0; part < net.parts[arc]; part++) {
                    begins[count] = net.froms[arc];
                    ends[count] = net.tos[arc];
                    widths[count] = net.endOf(arc, part) - net.starts[arc * MOST_PARTS + part];
                    rates[count] = net.rates[arc * MOST_PARTS + part];
                    count++;
                }
            }
            firsts[net.arcs] = count;
            sortWays();
        }

        private void sortWays() {
            Arrays.fill(heads, 0);
            for (int way = 0; way < 2 * count; way++) {
                heads[beginOf(way)]++;
            }
            for (int node = 1; node <= MOST_NODES; node++) {
                heads[node] += heads[node - 1];
            }
            for (int way = 2 * count - 1; way >= 0; way--) {
                int node = beginOf(way);
                heads[node]--;
                sorted[heads[node]] = way;
            }
        }

        int beginOf(int way) {
            return (way & 1) == 0 ? begins[way >> 1] : ends[way >> 1];
        }

        int endOf(int way) {
            return (way & 1) == 0 ? ends[way >> 1] : begins[way >> 1];
        }

        long rateOf(int way) {
            return (way & 1) == 0 ? rates[way >> 1] : -rates[way >> 1];
        }

        long roomOf(int way) {
            int lane = way >> 1;
            return (way & 1) == 0 ? widths[lane] - loads[lane] : loads[lane];
        }

        void unload() {
            Arrays.fill(loads, 0L);
            weigh();
        }

        void weigh() {
            for (int node = 0; node < net.nodes; node++) {
                excess[node] = net.supplies[node];
            }
            for (int arc = 0; arc < net.arcs; arc++) {
                long amount = amountOn(arc);
                excess[net.froms[arc]] -= amount;
                excess[net.tos[arc]] += amount;
            }
        }

        boolean isBalanced() {
            for (int node = 0; node < net.nodes; node++) {
                if (excess[node] != 0) {
                    return false;
                }
            }
            return true;
        }

        void push(int way, long amount) {
            loads[way >> 1] += (way & 1) == 0 ? amount : -amount;
            excess[beginOf(way)] -= amount;
            excess[endOf(way)] += amount;
        }

        /** Sends an amount to a node by the ways on which a search came to it. */
        void sendTo(int node, int[] via, long amount) {
            int at = node;
            for (int step = 0; step < net.nodes && via[at] >= 0; step++) {
                int way = via[at];
                push(way, amount);
                at = beginOf(way);
            }
        }

        long amountOn(int arc) {
            long amount = net.lowOf(arc);
            for (int lane = firsts[arc]; lane < firsts[arc + 1]; lane++) {
                amount += loads[lane];
            }
            return amount;
        }

        void fillCheapFirst() {
            for (int arc = 0; arc < net.arcs; arc++) {
                long left = amountOn(arc) - net.lowOf(arc);
                for (int lane = firsts[arc]; lane < firsts[arc + 1]; lane++) {
                    loads[lane] = Math.min(left, widths[lane]);
                    left -= loads[lane];
                }
            }
        }

        long sumOfCosts() {
            long sum = 0;
            for (int arc = 0; arc < net.arcs; arc++) {
                sum += net.lowOf(arc) * rates[firsts[arc]];
            }
            for (int lane = 0; lane < count; lane++) {
                sum += loads[lane] * rates[lane];
            }
            return sum;
        }
    }

    /** The WAYS to change what goes on the lanes: along an ARC at least cost, against it where that saves most. */
    private static final class Ways {
        final Net net;
        final Lanes lanes;
        final int[] numbers = new int[2 * MOST_ARCS];
        final int[] begins = new int[2 * MOST_ARCS];
        final int[] ends = new int[2 * MOST_ARCS];
        final long[] rates = new long[2 * MOST_ARCS];
        int count;

        Ways(Net net, Lanes lanes) {
            this.net = net;
            this.lanes = lanes;
        }

        void gather() {
            count = 0;
            for (int arc = 0; arc < net.arcs; arc++) {
                gatherAlong(arc);
                gatherAgainst(arc);
            }
        }

        private void gatherAlong(int arc) {
            for (int lane = lanes.firsts[arc]; lane < lanes.firsts[arc + 1]; lane++) {
                if (lanes.loads[lane] < lanes.widths[lane]) {
                    add(2 * lane);
                    return;
                }
            }
        }

        private void gatherAgainst(int arc) {
            for (int lane = lanes.firsts[arc + 1] - 1; lane >= lanes.firsts[arc]; lane--) {
                if (lanes.loads[lane] > 0) {
                    add(2 * lane + 1);
                    return;
                }
            }
        }

        private void add(int way) {
            numbers[count] = way;
            begins[count] = lanes.beginOf(way);
            ends[count] = lanes.endOf(way);
            rates[count] = lanes.rateOf(way);
            count++;
        }
    }

    /** Sends what nodes have too much of to where it lacks, by fewest open lanes, whatever they cost. */
    private static final class Router {
        final Net net;
        final Lanes lanes;
        final boolean[] open = new boolean[MOST_LANES];
        final int[] via = new int[MOST_NODES];
        final long[] carried = new long[MOST_NODES];
        final int[] queue = new int[MOST_NODES];
        int queued;

        Router(Net net, Lanes lanes) {
            this.net = net;
            this.lanes = lanes;
        }

        /** Whether there is a FLOW; it is on the lanes then. If not, the nodes that via has seen are THE SET. */
        boolean findFlow() {
            lanes.unload();
            for (int lane = 0; lane < lanes.count; lane++) {
                open[lane] = true;
            }
            sendWhatCanGo();
            return lanes.isBalanced();
        }

        /** Of the FLOWS of least cost the one with the least on ARC 0, then on ARC 1, and so on. */
        void lessen(long[] prices) {
            // Flows of least cost differ only on lanes whose rate is just the difference of the prices.
            for (int lane = 0; lane < lanes.count; lane++) {
                open[lane] = lanes.rates[lane] == prices[lanes.ends[lane]] - prices[lanes.begins[lane]];
            }
            for (int arc = 0; arc < net.arcs; arc++) {
                if (closeLanes(arc)) {
                    sendWhatCanGo();
                    putBack(arc);
                }
            }
        }

        private boolean closeLanes(int arc) {
            long taken = 0;
            for (int lane = lanes.firsts[arc]; lane < lanes.firsts[arc + 1]; lane++) {
                if (open[lane]) {
                    taken += lanes.loads[lane];
                    lanes.loads[lane] = 0;
                    open[lane] = false;
                }
            }
            lanes.excess[net.froms[arc]] += taken;
            lanes.excess[net.tos[arc]] -= taken;
            return taken > 0;
        }

        private void putBack(int arc) {
            for (int lane = lanes.firsts[arc]; lane < lanes.firsts[arc + 1]; lane++) {
                long left = lanes.excess[net.froms[arc]];
                lanes.push(2 * lane, Math.min(left, lanes.roomOf(2 * lane)));
            }
        }

        private void sendWhatCanGo() {
            for (int turn = 0; turn < TURNS; turn++) {
                int node = nearestInNeed();
                if (node == NONE) {
                    return;
                }
                lanes.sendTo(node, via, Math.min(carried[node], -lanes.excess[node]));
            }
        }

        private int nearestInNeed() {
            queueSources();
            for (int next = 0; next < queued; next++) {
                int node = queue[next];
                if (lanes.excess[node] < 0) {
                    return node;
                }
                queueNeighbours(node);
            }
            return NONE;
        }

        private void queueSources() {
            Arrays.fill(via, UNSEEN);
            queued = 0;
            for (int node = 0; node < net.nodes; node++) {
                if (lanes.excess[node] > 0) {
                    enqueue(node, START, lanes.excess[node]);
                }
            }
        }

        private void queueNeighbours(int node) {
            for (int index = lanes.heads[node]; index < lanes.heads[node + 1]; index++) {
                int way = lanes.sorted[index];
                int end = lanes.endOf(way);
                long room = open[way >> 1] ? lanes.roomOf(way) : 0;
                if (room > 0 && via[end] == UNSEEN) {
                    enqueue(end, way, Math.min(carried[node], room));
                }
            }
        }

        private void enqueue(int node, int way, long amount) {
            via[node] = way;
            carried[node] = amount;
            queue[queued] = node;
            queued++;
        }
    }

    /** The PRICES, what they prove, and the LIMITS. */
    private static final class Prices {
        final Net net;
        final Lanes lanes;
        final Ways ways;
        final long[] values = new long[MOST_NODES];
        final long[] distances = new long[MOST_NODES];

        Prices(Net net, Lanes lanes, Ways ways) {
            this.net = net;
            this.lanes = lanes;
            this.ways = ways;
        }

        /** Prices under which no ENDLESS lane has a cost that falls; false when there are none, for THE RING. */
        boolean settleEndless() {
            Arrays.fill(values, 0L);
            for (int round = 0; round <= net.nodes; round++) {
                if (!lowerByEndless()) {
                    return true;
                }
            }
            return false;
        }

        private boolean lowerByEndless() {
            boolean lower = false;
            for (int arc = 0; arc < net.arcs; arc++) {
                long value = values[net.froms[arc]] + net.lastRate(arc);
                if (net.endless[arc] && value < values[net.tos[arc]]) {
                    values[net.tos[arc]] = value;
                    lower = true;
                }
            }
            return lower;
        }

        /** PRICES: they are the same for each flow of least cost. */
        void measure() {
            Arrays.fill(values, 0L);
            lowerAll(values, NONE);
        }

        boolean areProof() {
            for (int way = 0; way < ways.count; way++) {
                if (values[ways.ends[way]] > values[ways.begins[way]] + ways.rates[way]) {
                    return false;
                }
            }
            lanes.weigh();
            return lanes.isBalanced();
        }

        /** For an ARC without PIECES: below this a ring of ways along it would be cheaper. */
        long leastRate(int arc) {
            int lane = lanes.firsts[arc];
            if (lanes.roomOf(2 * lane) == 0) {
                return NO_BOUND;
            }
            long distance = distanceWithout(lane, net.tos[arc], net.froms[arc]);
            return distance == FAR ? NO_BOUND : -distance;
        }

        /** For an ARC without PIECES: above this a ring of ways against it would be cheaper. */
        long greatestRate(int arc) {
            int lane = lanes.firsts[arc];
            if (lanes.roomOf(2 * lane + 1) == 0) {
                return NO_BOUND;
            }
            long distance = distanceWithout(lane, net.froms[arc], net.tos[arc]);
            return distance == FAR ? NO_BOUND : distance;
        }

        private long distanceWithout(int lane, int from, int to) {
            Arrays.fill(distances, FAR);
            distances[from] = 0;
            lowerAll(distances, lane);
            return distances[to];
        }

        private void lowerAll(long[] costs, int laneLeftOut) {
            boolean lower = true;
            for (int round = 0; lower && round < net.nodes; round++) {
                lower = false;
                for (int way = 0; way < ways.count; way++) {
                    if (ways.numbers[way] >> 1 != laneLeftOut && lowerBy(way, costs)) {
                        lower = true;
                    }
                }
            }
        }

        private boolean lowerBy(int way, long[] costs) {
            long before = costs[ways.begins[way]];
            if (before == FAR || before + ways.rates[way] >= costs[ways.ends[way]]) {
                return false;
            }
            costs[ways.ends[way]] = before + ways.rates[way];
            return true;
        }
    }

    /**
     * Ways of least cost, one after the other; when wanted, only those for great amounts at first. They begin with
     * prices under which no ENDLESS lane falls, so that only lanes that end need to be filled.
     */
    private static final class Paths {
        final Net net;
        final Lanes lanes;
        final long[] prices;
        // Costs times 32, and one for each way, fewer than 32: of equal costs the fewest ways, lest turns grow many.
        final long[] distances = new long[MOST_NODES];
        final boolean[] done = new boolean[MOST_NODES];
        final int[] via = new int[MOST_NODES];
        final long[] carried = new long[MOST_NODES];

        Paths(Net net, Lanes lanes, long[] prices) {
            this.net = net;
            this.lanes = lanes;
            this.prices = prices;
        }

        /** Whether all has gone; else what has gone, went at least cost. */
        boolean sendOneByOne() {
            useFalling(1);
            return sendAtLeast(1, PATIENCE);
        }

        /** Goes on from what has gone at least cost, if anything has. */
        void sendGreatFirst() {
            for (long amount = GREAT_AMOUNT; amount > 0; amount >>= 1) {
                useFalling(amount);
                sendAtLeast(amount, TURNS);
            }
        }

        private void useFalling(long amount) {
            for (int way = 0; way < 2 * lanes.count; way++) {
                long room = lanes.roomOf(way);
                long gap = prices[lanes.endOf(way)] - prices[lanes.beginOf(way)];
                if (room >= amount && lanes.rateOf(way) < gap) {
                    lanes.push(way, room);
                }
            }
        }

        /** Whether no more ways for the amount were left within so many turns. */
        private boolean sendAtLeast(long amount, int turns) {
            for (int turn = 0; turn < turns; turn++) {
                int node = nearestInNeed(amount);
                if (node == NONE) {
                    return true;
                }
                raisePrices(distances[node] >> 5);
                lanes.sendTo(node, via, Math.min(carried[node], -lanes.excess[node]));
            }
            return false;
        }

        private int nearestInNeed(long amount) {
            markSources(amount);
            for (int turn = 0; turn < net.nodes; turn++) {
                int node = nearestNotDone();
                if (node == NONE || lanes.excess[node] <= -amount) {
                    return node;
                }
                done[node] = true;
                goOn(node, amount);
            }
            return NONE;
        }

        private void markSources(long amount) {
            for (int node = 0; node < net.nodes; node++) {
                boolean source = lanes.excess[node] >= amount;
                done[node] = false;
                distances[node] = source ? 0 : FAR;
                via[node] = source ? START : UNSEEN;
                carried[node] = source ? lanes.excess[node] : 0;
            }
        }

        private int nearestNotDone() {
            int nearest = NONE;
            long least = FAR;
            for (int node = 0; node < net.nodes; node++) {
                if (!done[node] && distances[node] < least) {
                    nearest = node;
                    least = distances[node];
                }
            }
            return nearest;
        }

        private void goOn(int node, long amount) {
            for (int index = lanes.heads[node]; index < lanes.heads[node + 1]; index++) {
                int way = lanes.sorted[index];
                long room = lanes.roomOf(way);
                int end = lanes.endOf(way);
                if (room < amount || done[end]) {
                    continue;
                }
                long reducedRate = lanes.rateOf(way) + prices[node] - prices[end];
                long distance = distances[node] + reducedRate * 32 + 1;
                if (distance < distances[end]) {
                    distances[end] = distance;
                    via[end] = way;
                    carried[end] = Math.min(carried[node], room);
                }
            }
        }

        private void raisePrices(long most) {
            for (int node = 0; node < net.nodes; node++) {
                prices[node] += Math.min(distances[node] >> 5, most);
            }
        }
    }

    /** Rings of ways along which the cost falls, the one that falls most for each way first: so they are few. */
    private static final class Rings {
        final Net net;
        final Lanes lanes;
        final Ways ways;
        // Of walks of so many ways to a node the least cost, and the last way of the one that has it.
        final long[] costs = new long[(MOST_NODES + 1) * MOST_NODES];
        final int[] lasts = new int[(MOST_NODES + 1) * MOST_NODES];
        final int[] trail = new int[MOST_NODES];
        final int[] metAt = new int[MOST_NODES];

        Rings(Net net, Lanes lanes, Ways ways) {
            this.net = net;
            this.lanes = lanes;
            this.ways = ways;
        }

        void cancelAll() {
            lanes.fillCheapFirst();
            for (int turn = 0; turn < TURNS; turn++) {
                ways.gather();
                walk();
                int end = endOfSteepest();
                if (end == NONE) {
                    return;
                }
                cancelRingTo(end);
            }
        }

        private void walk() {
            for (int place = 0; place < (net.nodes + 1) * MOST_NODES; place++) {
                costs[place] = place < MOST_NODES ? 0 : FAR;
            }
            for (int step = 1; step <= net.nodes; step++) {
                walkOn((step - 1) * MOST_NODES, step * MOST_NODES);
            }
        }

        private void walkOn(int before, int after) {
            for (int way = 0; way < ways.count; way++) {
                long cost = costs[before + ways.begins[way]];
                int place = after + ways.ends[way];
                if (cost != FAR && cost + ways.rates[way] < costs[place]) {
                    costs[place] = cost + ways.rates[way];
                    lasts[place] = ways.numbers[way];
                }
            }
        }

        /** By Karp's rule: the node where a walk of as many ways as nodes ends whose rings have the least mean. */
        private int endOfSteepest() {
            int best = NONE;
            long bestFall = 0;
            long bestWays = 1;
            for (int node = 0; node < net.nodes; node++) {
                int step = flattestStep(node);
                if (step == NONE) {
                    continue;
                }
                long fall = costOfRest(node, step);
                long ways = net.nodes - step;
                if (fall * bestWays < bestFall * ways) {
                    best = node;
                    bestFall = fall;
                    bestWays = ways;
                }
            }
            return best;
        }

        private int flattestStep(int node) {
            if (costs[net.nodes * MOST_NODES + node] == FAR) {
                return NONE;
            }
            int flattest = 0;
            for (int step = 1; step < net.nodes; step++) {
                if (costs[step * MOST_NODES + node] == FAR) {
                    continue;
                }
                long rest = costOfRest(node, step) * (net.nodes - flattest);
                if (rest > costOfRest(node, flattest) * (net.nodes - step)) {
                    flattest = step;
                }
            }
            return flattest;
        }

        private long costOfRest(int node, int step) {
            return costs[net.nodes * MOST_NODES + node] - costs[step * MOST_NODES + node];
        }

        private void cancelRingTo(int end) {
            Arrays.fill(metAt, NONE);
            int node = end;
            metAt[node] = net.nodes;
            for (int step = net.nodes - 1; step >= 0; step--) {
                trail[step] = lasts[(step + 1) * MOST_NODES + node];
                node = lanes.beginOf(trail[step]);
                if (metAt[node] != NONE) {
                    pushRound(step, metAt[node]);
                    return;
                }
                metAt[node] = step;
            }
        }

        private void pushRound(int first, int afterLast) {
            long amount = PLENTY;
            for (int step = first; step < afterLast; step++) {
                amount = Math.min(amount, lanes.roomOf(trail[step]));
            }
            for (int step = first; step < afterLast; step++) {
                lanes.push(trail[step], amount);
            }
        }
    }

    /** THE RING. A closed walk below 0 with fewest ARCS goes through no NODE twice, so walks are all it looks at. */
    private static final class Falling {
        final Net net;
        final int[] arcs = new int[MOST_NODES];
        // Of walks of so many ENDLESS ARCS from a node to the goal the least cost.
        final long[] costs = new long[(MOST_NODES + 1) * MOST_NODES];
        int length;

        Falling(Net net) {
            this.net = net;
        }

        void seek() {
            length = 0;
            int fewest = fewestArcs();
            int arc = lowestOfRings(fewest);
            if (arc == NONE) {
                return;
            }
            measureTo(net.froms[arc], fewest - 1);
            long sum = 0;
            for (int left = fewest - 1; left >= 0 && arc != NONE; left--) {
                arcs[length] = arc;
                length++;
                sum += net.lastRate(arc);
                arc = left == 0 ? NONE : lowestFrom(net.tos[arc], left - 1, sum);
            }
        }

        private int fewestArcs() {
            int fewest = net.nodes;
            for (int goal = 0; goal < net.nodes; goal++) {
                measureTo(goal, fewest - 1);
                for (int step = 1; step < fewest; step++) {
                    if (costs[step * MOST_NODES + goal] < 0) {
                        fewest = step;
                    }
                }
            }
            return fewest;
        }

        private int lowestOfRings(int fewest) {
            for (int arc = 0; arc < net.arcs; arc++) {
                if (!net.endless[arc]) {
                    continue;
                }
                measureTo(net.froms[arc], fewest - 1);
                if (endsBelow(arc, fewest - 1, 0)) {
                    return arc;
                }
            }
            return NONE;
        }

        private int lowestFrom(int node, int left, long sum) {
            for (int arc = 0; arc < net.arcs; arc++) {
                if (net.endless[arc] && net.froms[arc] == node && endsBelow(arc, left, sum)) {
                    return arc;
                }
            }
            return NONE;
        }

        private boolean endsBelow(int arc, int left, long sum) {
            return sum + net.lastRate(arc) + costs[left * MOST_NODES + net.tos[arc]] < 0;
        }

        private void measureTo(int goal, int most) {
            for (int place = 0; place < (most + 1) * MOST_NODES; place++) {
                costs[place] = place == goal ? 0 : FAR;
            }
            for (int step = 1; step <= most; step++) {
                for (int arc = 0; arc < net.arcs; arc++) {
                    long rest = costs[(step - 1) * MOST_NODES + net.tos[arc]];
                    int place = step * MOST_NODES + net.froms[arc];
                    if (net.endless[arc] && rest != FAR && rest + net.lastRate(arc) < costs[place]) {
                        costs[place] = rest + net.lastRate(arc);
                    }
                }
            }
        }
    }

    /** THE SET. */
    private static final class Unserved {
        final Net net;
        final int[] members = new int[MOST_NODES];
        int count;

        Unserved(Net net) {
            this.net = net;
        }

        void takeAll() {
            count = 0;
            for (int node = 0; node < net.nodes; node++) {
                members[count] = node;
                count++;
            }
        }

        /** What a search from all that is too much still reaches is the least set of the greatest EXCESS. */
        void takeSeen(int[] via) {
            count = 0;
            for (int node = 0; node < net.nodes; node++) {
                if (via[node] != UNSEEN) {
                    members[count] = node;
                    count++;
                }
            }
        }
    }

    /** THE ASSIGNMENT. */
    private static final class Pairing {
        final long[] costs = new long[MOST_PAIRED * MOST_PAIRED];
        final int[] mates = new int[MOST_PAIRED];
        // By which of the second are given to the lowest of the first: the least cost of giving away the others.
        final long[] sums = new long[1 << MOST_PAIRED];
        int size;
        boolean solved;

        void begin(int n) {
            size = n;
            solved = false;
            Arrays.fill(costs, FAR);
        }

        boolean has(int i) {
            return i >= 0 && i < size;
        }

        void allow(int i, int j, long cost) {
            costs[i * MOST_PAIRED + j] = cost;
            solved = false;
        }

        boolean isPossible() {
            if (size == 0) {
                return false;
            }
            if (!solved) {
                solve();
                solved = true;
            }
            return sums[0] != FAR;
        }

        private void solve() {
            int all = (1 << size) - 1;
            sums[all] = 0;
            for (int given = all - 1; given >= 0; given--) {
                long least = FAR;
                for (int j = 0; j < size; j++) {
                    least = Math.min(least, sumWith(given, j));
                }
                sums[given] = least;
            }
            if (sums[0] != FAR) {
                giveLowest();
            }
        }

        private long sumWith(int given, int j) {
            int i = Integer.bitCount(given);
            if ((given >> j & 1) == 1 || costs[i * MOST_PAIRED + j] == FAR || sums[given | 1 << j] == FAR) {
                return FAR;
            }
            return costs[i * MOST_PAIRED + j] + sums[given | 1 << j];
        }

        private void giveLowest() {
            int given = 0;
            for (int i = 0; i < size; i++) {
                int lowest = 0;
                for (int j = size - 1; j >= 0; j--) {
                    if (sumWith(given, j) == sums[given]) {
                        lowest = j;
                    }
                }
                mates[i] = lowest;
                given |= 1 << lowest;
            }
        }
    }
}
