import java.lang.management.ManagementFactory;
import java.lang.reflect.Constructor;
import java.lang.reflect.Field;
import java.lang.reflect.Method;
import java.lang.reflect.Modifier;
import java.util.Arrays;
import java.util.Random;
import java.util.TreeSet;

/** The public face, calls with any arguments in any state, and the room that calls take. */
public final class FaceTest {
    private static int wrong = 0;

    private static void due(String what, Object got, Object want) {
        if (!got.equals(want)) {
            wrong++;
            System.out.println(what + ": " + got + ", due is " + want);
        }
    }

    private static void face() {
        String want = "boolean assign(int) boolean keeps(int, long) boolean price(int, long) boolean put(int, int, long)"
            + " int arc(int, int, long, long, long) int check() int mate(int) int node(long) int piece(int, long, long)"
            + " int ring(int) int run(int) int set(int) int told(int) long cost() long least() long on(int)"
            + " long potential(int) long span(int, int) long supply(int, long) void clear()";
        TreeSet<String> names = new TreeSet<>();
        TreeSet<String> hidden = new TreeSet<>();
        for (Method method : CostFlow.class.getDeclaredMethods()) {
            String types = Arrays.toString(method.getParameterTypes());
            if (Modifier.isPrivate(method.getModifiers())) {
                hidden.add(method.getName());
                continue;
            }
            due(method.getName() + " is public and no more", method.getModifiers(), Modifier.PUBLIC);
            names.add(method.getReturnType() + " " + method.getName() + "(" + types.substring(1, types.length() - 1) + ")");
        }
        due("methods", String.join(" ", names), want);
        for (String name : hidden) {
            due(name + " is no name of the face", want.contains(" " + name + "("), false);
        }
        TreeSet<String> fields = new TreeSet<>();
        for (Field field : CostFlow.class.getDeclaredFields()) {
            if (!Modifier.isPrivate(field.getModifiers())) {
                fields.add(Modifier.toString(field.getModifiers()) + " " + field.getType() + " " + field.getName());
            }
        }
        due("fields", fields.toString(), "[public static final int ENDLESS, public static final int NONE]");
        due("NONE", CostFlow.NONE, -1);
        due("ENDLESS", CostFlow.ENDLESS, -2);
        Constructor<?>[] makers = CostFlow.class.getDeclaredConstructors();
        due("constructors", makers.length + " " + makers[0], "1 public CostFlow()");
        due("the class", CostFlow.class.getModifiers(), Modifier.PUBLIC | Modifier.FINAL);
    }

    private static final int[] INTS = {Integer.MIN_VALUE, -2, -1, 0, 1, 2, 3, 5, 7, 8, 9, 23, 24, 79, 80, Integer.MAX_VALUE};
    private static final long[] LONGS = {Long.MIN_VALUE, -1000001, -1000000, -3, -2, -1, 0, 1, 2, 4, 9, 999999, 1000000,
        1000001, 1L << 32, Long.MAX_VALUE};

    private static int someInt(Random random, int usual) {
        return random.nextInt(8) == 0 ? INTS[random.nextInt(INTS.length)] : random.nextInt(usual);
    }

    private static long someLong(Random random) {
        return random.nextInt(8) == 0 ? LONGS[random.nextInt(LONGS.length)] : random.nextInt(9) - 3;
    }

    /** Whether the call was refused. */
    private static boolean tell(CostFlow x, Random random, int wide) {
        switch (random.nextInt(9)) {
            case 0:
                return x.node(random.nextInt(3) == 0 ? someLong(random) : 0) == -1;
            case 1:
            case 2:
            case 3:
                return x.arc(someInt(random, wide), someInt(random, wide), Math.max(someLong(random), -1) / 2,
                    random.nextBoolean() ? -2 : someLong(random), someLong(random)) == -1;
            case 4:
                return x.piece(someInt(random, 2 * wide), someLong(random), someLong(random)) == -1;
            case 5:
                return x.supply(someInt(random, wide), someLong(random)) == -1000001;
            case 6:
                return !x.price(someInt(random, 2 * wide), someLong(random));
            case 7:
                return random.nextInt(10) != 0 || !x.assign(someInt(random, 9));
            default:
                return !x.put(someInt(random, 8), someInt(random, 8), someLong(random));
        }
    }

    /** All that can be asked, at the usual numbers and at odd ones. */
    private static String ask(CostFlow x) {
        StringBuilder all = new StringBuilder();
        all.append(x.cost()).append(' ').append(x.check()).append(' ').append(x.least());
        for (int k : INTS) {
            all.append(' ').append(x.on(k)).append(' ').append(x.potential(k)).append(' ').append(x.ring(k));
            all.append(' ').append(x.set(k)).append(' ').append(x.mate(k)).append(' ').append(x.told(k));
            all.append(' ').append(x.span(k, 0)).append(' ').append(x.span(k, 1)).append(' ').append(x.span(k, 2));
            all.append(' ').append(x.keeps(k, LONGS[(k & 7) * 2])).append(' ').append(x.keeps(k, LONGS[(k & 7) + 8]));
        }
        for (int what = 0; what < 8; what++) {
            all.append(' ').append(x.told(what));
        }
        return all.toString();
    }

    private static void anyCalls(int seed) {
        Random random = new Random(seed);
        CostFlow x = new CostFlow();
        int wide = 2 + random.nextInt(8);
        for (int k = 0; k < wide; k++) {
            x.node(0);
        }
        String before = ask(x);
        for (int call = 0; call < 200; call++) {
            int kind = random.nextInt(40);
            if (kind == 0 && random.nextInt(6) == 0) {
                x.clear();
            } else if (kind < 4) {
                x.run(0);
                before = ask(x);
                x.run(1);
                due("seed " + seed + " way 1 as way 0", ask(x), before);
                x.run(2);
                due("seed " + seed + " way 2 as way 0", ask(x), before);
                due("seed " + seed + " way 3", x.run(INTS[6 + random.nextInt(10)]), -1);
                due("seed " + seed + " a refused run changes nothing", ask(x), before);
            } else if (tell(x, random, wide)) {
                due("seed " + seed + " a refusal changes nothing", ask(x), before);
            }
            before = ask(x);
        }
    }

    private static CostFlow fullNet(Random random) {
        CostFlow x = new CostFlow();
        for (int k = 0; k < 24; k++) {
            x.node(k < 12 ? 500000 + 1000 * k : -500000 - 1000 * (k - 12));
        }
        for (int k = 0; k < 80; k++) {
            int from = k < 24 ? k : random.nextInt(24);
            int to = k < 24 ? (k + 1) % 24 : (from + 1 + random.nextInt(23)) % 24;
            x.arc(from, to, random.nextInt(1000), k < 24 ? -2 : 200000 + random.nextInt(800000), random.nextInt(300000) - 5000);
            for (int p = 1; p < 4; p++) {
                x.piece(k, p * 50000 + random.nextInt(40000), p * 300000 - random.nextInt(5000));
            }
        }
        return x;
    }

    /** 512 calls, most of them runs, of a net as large as may be: nothing may be made beyond the object itself. */
    private static void room() {
        com.sun.management.ThreadMXBean bean = (com.sun.management.ThreadMXBean) ManagementFactory.getThreadMXBean();
        long self = Thread.currentThread().getId();
        long before = bean.getThreadAllocatedBytes(self);
        CostFlow made = new CostFlow();
        long bytes = bean.getThreadAllocatedBytes(self) - before;
        due("a new object stays below 100000 bytes, " + made.told(0) + " nodes", bytes < 100000, true);
        CostFlow x = fullNet(new Random(5));
        x.assign(8);
        x.run(0);
        before = bean.getThreadAllocatedBytes(self);
        long sum = 0;
        for (int call = 0; call < 170; call++) {
            sum += x.run(call % 3) + x.check() + x.span(call % 80, call & 1);
            sum += x.cost() + x.least();
        }
        bytes = bean.getThreadAllocatedBytes(self) - before;
        due("all is BEST " + sum, x.told(6), 0);
        due("calls make nothing, but " + bytes, bytes < 10000, true);
    }

    public static void main(String[] args) {
        face();
        for (int seed = 0; seed < 400; seed++) {
            anyCalls(seed);
        }
        room();
        System.out.println(wrong == 0 ? "all answers are as due" : wrong + " answers are not as due");
        if (wrong != 0) {
            System.exit(1);
        }
    }
}
