/** Promises 1 to 6: a new object, link, shape, flow, tune, clear. */
public final class BuildTest {
    private static final int NONE = DeficitNet.NONE;
    private static final int[] FAR = {Integer.MIN_VALUE, Integer.MAX_VALUE, -1, 1 << 16};

    public static void main(String[] args) {
        promise1NewObject();
        promise2Link();
        promise2RefusedLinks();
        promise2LinksWhenBegun();
        promise3Shape();
        promise3FirstValues();
        promise4Flow();
        promise4RefusedFlows();
        promise5Tune();
        promise5FirstValues();
        promise6Clear();
        promise6ClearInTheMiddle();
        Checks.finish("BuildTest");
    }

    private static void isAsNew(String when, Net net) {
        Checks.due(when + " now()", net.now(), 0);
        for (int k = 0; k < 16; k++) {
            Checks.due(when + " trace(" + k + ")", net.trace(k), NONE);
        }
        for (int v = 0; v < 8; v++) {
            for (int t = 0; t < 8; t++) {
                Checks.due(when + " distance(" + v + ", " + t + ")", net.distance(v, t), v == t ? 0 : NONE);
                Checks.due(when + " way(" + v + ", " + t + ")", net.way(v, t), NONE);
            }
        }
        for (int port = 0; port < 24; port++) {
            Checks.due(when + " waiting(" + port + ", NONE)", net.waiting(port, NONE), NONE);
            Checks.due(when + " waiting(" + port + ", 0)", net.waiting(port, 0), NONE);
            Checks.due(when + " deficit(" + port + ", 0)", net.deficit(port, 0), NONE);
            Checks.due(when + " onPort(" + port + ")", net.onPort(port), NONE);
            Checks.due(when + " shape(" + port + ", 8, 4)", net.shape(port, 8, 4), false);
        }
        for (int flow = 0; flow < 6; flow++) {
            Checks.due(when + " timer(" + flow + ")", net.timer(flow), NONE);
            Checks.due(when + " count(" + flow + ", 0)", net.count(flow, 0), NONE);
            Checks.due(when + " tune(" + flow + ", 4, 100, 0)", net.tune(flow, 4, 100, 0), false);
        }
    }

    private static void promise1NewObject() {
        Net net = new Net();
        isAsNew("new", net);
        Checks.due("first link", net.link(0, 1, 1, 1, 0), 0);
        Checks.due("first flow", net.flow(0, 1, 1, 1), 0);
    }

    private static void promise2Link() {
        Net net = new Net();
        Checks.due("least numbers", net.link(0, 7, 1, 1, 0), 0);
        Checks.due("greatest numbers", net.link(7, 6, 100, 16, 40), 1);
        for (int l = 2; l < 12; l++) {
            Checks.due("the same two nodes again", net.link(0, 7, 50, 8, 20), l);
        }
        Checks.due("link 12", net.link(1, 2, 1, 1, 1), NONE);
        Checks.due("distance over the refused link", net.distance(1, 2), NONE);
        Checks.due("distance", net.distance(0, 6), 101);
        Checks.due("port 23", net.waiting(23, NONE), 0);
        Checks.due("port 24", net.waiting(24, NONE), NONE);
    }

    private static void promise2RefusedLinks() {
        Net net = new Net();
        int[][] wrong = {
            {-1, 1, 1, 1, 0}, {8, 1, 1, 1, 0}, {0, -1, 1, 1, 0}, {0, 8, 1, 1, 0}, {3, 3, 1, 1, 0},
            {0, 1, 0, 1, 0}, {0, 1, 101, 1, 0}, {0, 1, 1, 0, 0}, {0, 1, 1, 17, 0}, {0, 1, 1, 1, -1}, {0, 1, 1, 1, 41}
        };
        for (int[] w : wrong) {
            Checks.due("wrong link", net.link(w[0], w[1], w[2], w[3], w[4]), NONE);
        }
        for (int far : FAR) {
            Checks.due("far node", net.link(far, 1, 1, 1, 0), NONE);
            Checks.due("far node", net.link(1, far, 1, 1, 0), NONE);
            Checks.due("far nodes", net.link(far, far, 1, 1, 0), NONE);
            Checks.due("far cost", net.link(0, 1, far, 1, 0), NONE);
            Checks.due("far slowness", net.link(0, 1, 1, far, 0), NONE);
            Checks.due("far delay", net.link(0, 1, 1, 1, far), NONE);
        }
        isAsNew("after wrong links", net);
        Checks.due("link after wrong ones", net.link(0, 1, 1, 1, 0), 0);
    }

    private static void promise2LinksWhenBegun() {
        Net net = new Net();
        Checks.due("run(0)", net.run(0), 0);
        Checks.due("link after run(0)", net.link(0, 1, 5, 1, 0), 0);
        Checks.due("flow after run(0)", net.flow(0, 1, 1, 1), 0);
        Checks.due("run(51)", net.run(51), NONE);
        Checks.due("shape after run(51)", net.shape(0, 8, 4), true);
        Checks.due("tune after run(51)", net.tune(0, 4, 100, 0), true);
        Checks.due("step()", net.step(), true);
        Checks.due("link when begun", net.link(0, 1, 1, 1, 0), NONE);
        Checks.due("distance after it", net.distance(0, 1), 5);
        Checks.due("shape when begun", net.shape(0, 8, 4), false);
        Checks.due("flow when begun", net.flow(0, 1, 1, 1), NONE);
        Checks.due("tune when begun", net.tune(0, 4, 100, 0), false);
    }

    private static void promise3Shape() {
        Net net = new Net();
        net.link(0, 1, 1, 1, 0);
        Checks.due("least", net.shape(1, 1, 1), true);
        Checks.due("greatest", net.shape(1, 16, 8), true);
        Checks.due("others", net.shape(0, 3, 2), true);
        int[][] wrong = {{-1, 8, 4}, {2, 8, 4}, {0, 0, 4}, {0, 17, 4}, {0, 8, 0}, {0, 8, 9}};
        for (int[] w : wrong) {
            Checks.due("wrong shape", net.shape(w[0], w[1], w[2]), false);
        }
        for (int far : FAR) {
            Checks.due("far port", net.shape(far, 8, 4), false);
            Checks.due("far quantum", net.shape(0, far, 4), false);
            Checks.due("far room", net.shape(0, 8, far), false);
        }
        net.flow(0, 1, 8, 1);
        net.tune(0, 8, 100, 0);
        net.step();
        Checks.due("room is still 2", net.waiting(0, NONE), 2);
        Checks.due("lost", net.count(0, 5), 5);
        net.step();
        Checks.due("quantum is still 3, and 1 is given", net.deficit(0, 0), 2);
        Checks.due("the other port has its own shape", shapedRoom(1, 7), 7);
    }

    /** How many wait at port p of a net whose source sends more than there is room. */
    private static int shapedRoom(int p, int room) {
        Net net = new Net();
        net.link(0, 1, 1, 1, 0);
        net.shape(p, 8, room);
        net.shape(1 - p, 8, 1);
        net.flow(p, 1 - p, 100, 1);
        net.tune(0, 8, 100, 0);
        net.step();
        return net.waiting(p, NONE);
    }

    private static void promise3FirstValues() {
        Net net = new Net();
        net.link(0, 1, 1, 1, 0);
        net.flow(0, 1, 8, 1);
        net.tune(0, 8, 100, 0);
        net.step();
        Checks.due("first room", net.waiting(0, NONE), 4);
        Checks.due("lost without room", net.count(0, 5), 3);
        net.step();
        Checks.due("first quantum, less the size of one", net.deficit(0, 0), 7);
    }

    private static void promise4Flow() {
        Net net = new Net();
        Checks.due("least", net.flow(0, 7, 1, 1), 0);
        Checks.due("greatest", net.flow(7, 0, 100, 8), 1);
        for (int f = 2; f < 6; f++) {
            Checks.due("the same again", net.flow(7, 0, 100, 8), f);
        }
        Checks.due("flow 6", net.flow(7, 0, 100, 8), NONE);
        Checks.due("count(5, 0)", net.count(5, 0), 0);
        Checks.due("count(6, 0)", net.count(6, 0), NONE);
    }

    private static void promise4RefusedFlows() {
        Net net = new Net();
        int[][] wrong = {
            {-1, 1, 1, 1}, {8, 1, 1, 1}, {0, -1, 1, 1}, {0, 8, 1, 1}, {4, 4, 1, 1},
            {0, 1, 0, 1}, {0, 1, 101, 1}, {0, 1, 1, 0}, {0, 1, 1, 9}
        };
        for (int[] w : wrong) {
            Checks.due("wrong flow", net.flow(w[0], w[1], w[2], w[3]), NONE);
        }
        for (int far : FAR) {
            Checks.due("far source", net.flow(far, 1, 1, 1), NONE);
            Checks.due("far sink", net.flow(1, far, 1, 1), NONE);
            Checks.due("far count", net.flow(0, 1, far, 1), NONE);
            Checks.due("far size", net.flow(0, 1, 1, far), NONE);
        }
        isAsNew("after wrong flows", net);
        Checks.due("flow after wrong ones", net.flow(0, 1, 1, 1), 0);
    }

    private static void promise5Tune() {
        Net net = new Net();
        net.link(0, 1, 1, 16, 40);
        net.shape(0, 8, 8);
        net.flow(0, 1, 100, 1);
        net.flow(0, 1, 100, 1);
        Checks.due("least", net.tune(0, 1, 1, 0), true);
        Checks.due("greatest", net.tune(1, 8, 200, 1000), true);
        int[][] wrong = {{-1, 4, 9, 5}, {2, 4, 9, 5}, {0, 0, 9, 5}, {0, 9, 9, 5}, {0, 4, 0, 5}, {0, 4, 201, 5},
            {0, 4, 9, -1}, {0, 4, 9, 1001}};
        for (int[] w : wrong) {
            Checks.due("wrong tune", net.tune(w[0], w[1], w[2], w[3]), false);
        }
        for (int far : FAR) {
            Checks.due("far flow", net.tune(far, 4, 9, 5), false);
            Checks.due("far window", net.tune(0, far, 9, 5), false);
            Checks.due("far patience", net.tune(0, 4, far, 5), false);
            Checks.due("far birth", net.tune(0, 4, 9, far), false);
        }
        net.step();
        Checks.due("window is still 1", net.count(0, 1), 1);
        Checks.due("patience is still 1", net.timer(0), 1);
        Checks.due("birth is still 0", net.now(), 0);
        // The other comes among some 1300 events of the first.
        for (int n = 0; n < 60 && net.count(1, 3) == 0; n++) {
            Checks.holds("the other is not born before 1000", net.now() <= 1000);
            net.run(50);
        }
        Checks.due("the other's window", net.count(1, 1), 8);
        Checks.due("the other's patience and birth", net.timer(1), 1200);
    }

    private static void promise5FirstValues() {
        Net net = new Net();
        net.link(0, 1, 1, 1, 0);
        net.flow(0, 1, 100, 1);
        Checks.next(net, 0, Checks.START, 0, 0);
        Checks.due("first window", net.count(0, 1), 4);
        Checks.due("first patience", net.timer(0), 100);
    }

    private static void promise6Clear() {
        Net net = new Net();
        net.clear();
        isAsNew("cleared when new", net);
        net.step();
        Checks.due("begun without flows", net.link(0, 1, 1, 1, 1), NONE);
        net.clear();
        Checks.due("cleared, not begun", net.link(0, 1, 1, 1, 1), 0);
    }

    private static void promise6ClearInTheMiddle() {
        for (int rounds = 1; rounds <= 3; rounds++) {
            isAsNew("cleared in the middle", builtAndCleared(rounds));
        }
        promise6FirstValuesAgain(builtAndCleared(3));
    }

    private static Net builtAndCleared(int rounds) {
        Net net = new Net();
        for (int round = 0; round < rounds; round++) {
            net.link(0, 1, 1, 16, 40);
            net.link(1, 2, 2, 16, 40);
            net.shape(0, 1, 8);
            for (int f = 0; f < 6; f++) {
                net.flow(0, 2, 100, 8);
                net.tune(f, 8, 7, round);
            }
            Checks.due("run(50)", net.run(50), 50);
            Checks.due("run(50)", net.run(50), 50);
            net.clear();
        }
        return net;
    }

    private static void promise6FirstValuesAgain(Net net) {
        net.link(0, 1, 1, 1, 0);
        net.flow(0, 1, 5, 1);
        Checks.due("nothing on the port", net.onPort(0), NONE);
        Checks.due("nothing waits", net.waiting(0, NONE), 0);
        Checks.due("no deficit", net.deficit(0, 0), 0);
        Checks.due("no timer", net.timer(0), NONE);
        for (int what = 0; what < 7; what++) {
            Checks.due("count(0, " + what + ")", net.count(0, what), 0);
        }
        Checks.next(net, 0, Checks.START, 0, 0);
        Checks.due("first window", net.count(0, 1), 4);
        Checks.due("first patience", net.timer(0), 100);
        Checks.due("first room", net.count(0, 5), 0);
        Checks.due("three wait", net.waiting(0, 0), 3);
        Checks.next(net, 1, Checks.LEAVE, 0, 0);
        Checks.due("first quantum, less 1", net.deficit(0, 0), 7);
        Checks.next(net, 1, Checks.ARRIVE, 1, 0);
    }
}
