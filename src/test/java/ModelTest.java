import java.util.ArrayList;
import java.util.List;
import java.util.Random;

/** Random runs of at most 512 calls, with fixed seeds, answered by the class and by the model. */
public final class ModelTest {
    private static final int RUNS = 3000;
    private static final int[] ODD = {-1, -2, Integer.MIN_VALUE, Integer.MAX_VALUE, 64, 1000000};

    private final Random random;
    private final Net net = new Net();
    private final Model model = new Model();
    private final List<String> calls = new ArrayList<>();
    private final boolean dense;
    private boolean same = true;

    private ModelTest(long seed) {
        // Neighbouring seeds give like first numbers, so they are spread.
        random = new Random(seed * 0x9E3779B97F4A7C15L);
        dense = random.nextInt(4) == 0;
    }

    public static void main(String[] args) {
        for (int seed = 0; seed < RUNS; seed++) {
            ModelTest run = new ModelTest(seed);
            run.compare();
            if (!run.same) {
                int from = Math.max(0, run.calls.size() - 30);
                System.out.println("seed " + seed + ", call " + run.calls.size() + ", the last ones: "
                        + run.calls.subList(from, run.calls.size()));
                Checks.holds("seed " + seed, false);
                break;
            }
        }
        System.out.println("lost at once " + Model.lostAtOnce + ", for room " + Model.lostForRoom + ", without way "
                + Model.lostWithoutWay + "; passed over " + Model.passedOver + "; timeouts " + Model.timeoutsTaken);
        Checks.holds("packets were lost at once", Model.lostAtOnce > 1000);
        Checks.holds("packets were lost for want of room", Model.lostForRoom > 1000);
        Checks.holds("packets were lost without a way", Model.lostWithoutWay > 1000);
        Checks.holds("flows were passed over", Model.passedOver > 1000);
        Checks.holds("answers did nothing", Model.answersNotAbove > 1000);
        Checks.holds("timeouts came", Model.timeoutsTaken > 1000);
        Checks.holds("runs came to their end", Model.ends > 1000);
        Checks.finish("ModelTest");
    }

    private void compare() {
        build();
        while (goesOn()) {
            int dice = random.nextInt(1000);
            if (dice < 3) {
                net.clear();
                model.clear();
                calls.add("clear()");
                build();
            } else if (dice < 10) {
                build(random.nextInt(4));
            } else if (dice < 300) {
                due("step()", net.step() ? 1 : 0, model.step() ? 1 : 0);
            } else if (dice < 400) {
                int n = random.nextInt(10) == 0 ? odd() : random.nextInt(51);
                due("run(" + n + ")", net.run(n), model.run(n));
            } else {
                ask();
            }
        }
    }

    private boolean goesOn() {
        return same && calls.size() < Net.MOST_CALLS;
    }

    private void build() {
        int links = dense ? 12 : random.nextInt(14);
        for (int l = 0; l < links; l++) {
            build(0);
        }
        int flows = dense ? 6 : random.nextInt(8);
        for (int f = 0; f < flows; f++) {
            build(1);
        }
        int shapes = dense ? 40 : random.nextInt(20);
        for (int s = 0; s < shapes; s++) {
            build(2);
        }
        int tunes = dense ? 12 : random.nextInt(10);
        for (int t = 0; t < tunes; t++) {
            build(3);
        }
    }

    private void build(int which) {
        if (!goesOn()) {
            return;
        }
        if (which == 0) {
            link();
        } else if (which == 1) {
            int a = node();
            int b = node();
            int count = between(1, random.nextBoolean() ? 10 : 100);
            int size = between(1, dense ? 2 : 8);
            due("flow(" + a + ", " + b + ", " + count + ", " + size + ")", net.flow(a, b, count, size),
                    model.flow(a, b, count, size));
        } else if (which == 2) {
            int port = between(0, 23);
            int quantum = between(1, random.nextBoolean() ? 3 : 16);
            int room = between(dense ? 6 : 1, 8);
            due("shape(" + port + ", " + quantum + ", " + room + ")", net.shape(port, quantum, room) ? 1 : 0,
                    model.shape(port, quantum, room) ? 1 : 0);
        } else {
            int flow = between(0, 5);
            int window = between(dense ? 6 : 1, 8);
            int patience = between(1, dense ? 8 : random.nextBoolean() ? 20 : 200);
            int birth = between(0, random.nextInt(4) == 0 ? 1000 : 10);
            due("tune(" + flow + ", " + window + ", " + patience + ", " + birth + ")",
                    net.tune(flow, window, patience, birth) ? 1 : 0, model.tune(flow, window, patience, birth) ? 1 : 0);
        }
    }

    private void link() {
        int a = node();
        int b = node();
        int cost = between(1, random.nextBoolean() ? 4 : 100);
        int slowness = between(1, dense || random.nextBoolean() ? 2 : 16);
        int delay = between(dense ? 20 : 0, 40);
        due("link(" + a + ", " + b + ", " + cost + ", " + slowness + ", " + delay + ")",
                net.link(a, b, cost, slowness, delay), model.link(a, b, cost, slowness, delay));
    }

    private void ask() {
        int port = between(0, 23);
        int flow = between(-1, 5);
        int v = node();
        int t = node();
        int small = between(0, 15);
        switch (random.nextInt(9)) {
            case 0 -> due("now()", net.now(), model.now());
            case 1 -> due("trace(" + small + ")", net.trace(small), model.trace(small));
            case 2 -> due("distance(" + v + ", " + t + ")", net.distance(v, t), model.distance(v, t));
            case 3 -> due("way(" + v + ", " + t + ")", net.way(v, t), model.way(v, t));
            case 4 -> due("waiting(" + port + ", " + flow + ")", net.waiting(port, flow), model.waiting(port, flow));
            case 5 -> due("deficit(" + port + ", " + flow + ")", net.deficit(port, flow), model.deficit(port, flow));
            case 6 -> due("onPort(" + port + ")", net.onPort(port), model.onPort(port));
            case 7 -> due("timer(" + flow + ")", net.timer(flow), model.timer(flow));
            default -> {
                int what = between(0, 6);
                due("count(" + flow + ", " + what + ")", net.count(flow, what), model.count(flow, what));
            }
        }
    }

    private int node() {
        return between(0, dense ? 7 : 5);
    }

    private int odd() {
        return ODD[random.nextInt(ODD.length)];
    }

    /** Mostly within, now and then just beside or far away. */
    private int between(int least, int most) {
        int dice = random.nextInt(200);
        if (dice == 0) {
            return odd();
        }
        if (dice < 3) {
            return dice == 1 ? least - 1 : most + 1;
        }
        return least + random.nextInt(most - least + 1);
    }

    private void due(String call, long got, long want) {
        calls.add(call + " = " + got);
        if (got != want) {
            same = false;
            Checks.due(call, got, want);
        }
    }
}
