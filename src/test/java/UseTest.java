import java.util.Random;

/** How an object is used: up to its 512th call its answers are due, and no call ever throws or fails to end. */
public final class UseTest {
    private static final int NONE = DeficitNet.NONE;
    private static final int[] ODD = {Integer.MIN_VALUE, Integer.MAX_VALUE, Integer.MIN_VALUE + 1, -1000000, -256, -2, -1,
        0, 1, 2, 5, 6, 7, 8, 9, 11, 12, 15, 16, 17, 23, 24, 25, 40, 41, 50, 51, 100, 101, 128, 200, 201, 256, 1000, 1001,
        65536, 1 << 30};

    public static void main(String[] args) {
        lastCallOfManyTicks();
        lastCallOfManyPackets();
        clearAtTheLastCalls();
        anyCallInAnyState();
        objectsDoNotKnowOneAnother();
        Checks.finish("UseTest");
    }

    /** "An object is used for at most 512 calls": with the greatest birth and patience, all of them events. */
    private static void lastCallOfManyTicks() {
        for (int last = 0; last < 5; last++) {
            Net net = new Net();
            net.flow(0, 1, 100, 8);
            net.tune(0, 8, 200, 1000);
            while (net.calls() < Net.MOST_CALLS - 1) {
                Checks.due("run(50)", net.run(50), 50);
            }
            // 509 times 50 events: a START and its TIMEOUTs.
            int timeouts = 25449;
            int tick = 1000 + 200 * timeouts;
            switch (last) {
                case 0 -> Checks.due("now()", net.now(), tick);
                case 1 -> Checks.due("trace(0)", net.trace(0), Checks.event(tick, Checks.TIMEOUT, 0, 0));
                case 2 -> Checks.due("trace(15)", net.trace(15), Checks.event(tick - 3000, Checks.TIMEOUT, 0, 0));
                case 3 -> Checks.due("lost", net.count(0, 5), 8 * (timeouts + 1));
                default -> Checks.due("timer(0)", net.timer(0), tick + 200);
            }
            Checks.due("calls", net.calls(), Net.MOST_CALLS);
        }
    }

    /** As much as can be going on, compared with the model at every run and at the end. */
    private static void lastCallOfManyPackets() {
        Net net = new Net();
        Model model = new Model();
        for (int l = 0; l < 12; l++) {
            Checks.due("link", net.link(l % 8, (l + 1) % 8, 1 + l, 1, 40), model.link(l % 8, (l + 1) % 8, 1 + l, 1, 40));
            Checks.due("shape", net.shape(2 * l, 1 + l, 8), model.shape(2 * l, 1 + l, 8));
        }
        for (int f = 0; f < 6; f++) {
            Checks.due("flow", net.flow(f, (f + 3) % 8, 100, 1 + f % 3), model.flow(f, (f + 3) % 8, 100, 1 + f % 3));
            Checks.due("tune", net.tune(f, 8, 3 + f, 0), model.tune(f, 8, 3 + f, 0));
        }
        while (net.calls() < Net.MOST_CALLS - 58) {
            Checks.due("run(50)", net.run(50), model.run(50));
        }
        for (int k = 0; k < 16; k++) {
            Checks.due("trace(" + k + ")", net.trace(k), model.trace(k));
        }
        for (int f = 0; f < 6; f++) {
            for (int what = 0; what < 7; what++) {
                Checks.due("count(" + f + ", " + what + ")", net.count(f, what), model.count(f, what));
            }
        }
        Checks.due("calls", net.calls(), Net.MOST_CALLS);
    }

    /** Cleared late, it begins anew, but has no more calls than it had. */
    private static void clearAtTheLastCalls() {
        Net net = new Net();
        net.link(0, 1, 1, 1, 0);
        net.flow(0, 1, 100, 1);
        net.tune(0, 8, 1, 0);
        while (net.calls() < Net.MOST_CALLS - 6) {
            net.run(50);
        }
        net.clear();
        Checks.due("link", net.link(0, 1, 1, 1, 0), 0);
        Checks.due("flow", net.flow(0, 1, 1, 1), 0);
        Checks.due("run(50)", net.run(50), 5);
        Checks.due("trace(4)", net.trace(4), Checks.event(0, Checks.START, 0, 0));
        Checks.due("trace(5)", net.trace(5), NONE);
    }

    /** Far more than 512 calls, with odd arguments: what is answered then is free, but it is answered. */
    private static void anyCallInAnyState() {
        for (int seed = 0; seed < 40; seed++) {
            Random random = new Random(seed * 0x9E3779B97F4A7C15L);
            DeficitNet net = new DeficitNet();
            try {
                for (int n = 0; n < 5000; n++) {
                    call(net, random, n % 1000 == 999);
                }
            } catch (RuntimeException failure) {
                Checks.holds("seed " + seed + " threw " + failure, false);
            }
        }
    }

    /** The same calls give the same answers, whatever other objects are there and do. */
    private static void objectsDoNotKnowOneAnother() {
        for (int seed = 0; seed < 40; seed++) {
            Random random = new Random(seed);
            Random again = new Random(seed);
            Random third = new Random(seed + 1000);
            DeficitNet net = new DeficitNet();
            DeficitNet twin = new DeficitNet();
            DeficitNet other = new DeficitNet();
            // One less, as clear() is a call too.
            for (int n = 0; n < Net.MOST_CALLS - 1; n++) {
                long due = call(net, random, n == 300);
                call(other, third, n == 200);
                Checks.due("the same call " + n + " of seed " + seed, call(twin, again, n == 300), due);
            }
        }
    }

    private static long call(DeficitNet net, Random random, boolean clears) {
        if (clears) {
            net.clear();
        }
        int a = odd(random);
        int b = odd(random);
        int c = odd(random);
        int d = odd(random);
        int e = odd(random);
        return switch (random.nextInt(24)) {
            case 0, 1, 2 -> net.link(a, b, c, d, e);
            case 3, 4 -> net.shape(a, b, c) ? 1 : 0;
            case 5, 6, 7 -> net.flow(a, b, c, d);
            case 8 -> net.tune(a, b, c, d) ? 1 : 0;
            case 9, 10 -> random.nextInt(20) == 0 && net.step() ? 1 : 0;
            case 11, 12 -> random.nextInt(20) == 0 ? net.run(a) : net.run(0);
            case 13 -> net.now();
            case 14 -> net.trace(a);
            case 15 -> net.distance(a, b);
            case 16 -> net.way(a, b);
            case 17 -> net.waiting(a, b);
            case 18 -> net.deficit(a, b);
            case 19 -> net.onPort(a);
            case 20 -> net.timer(a);
            default -> net.count(a, b);
        };
    }

    /** Mostly small, as else hardly a link or a flow would be there. */
    private static int odd(Random random) {
        return random.nextInt(3) > 0 ? random.nextInt(9) : ODD[random.nextInt(ODD.length)];
    }
}
