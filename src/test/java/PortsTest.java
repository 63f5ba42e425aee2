/** Promises 13 to 15: waiting, deficit, onPort, and how a port chooses. */
public final class PortsTest {
    private static final int NONE = DeficitNet.NONE;

    public static void main(String[] args) {
        turnsByDeficits();
        smallQuantumNeedsManyLooks();
        roomIsForAllFlows();
        answersHaveSizeOne();
        packetsAreLostOnTheWay();
        promise13Wrong();
        promise14Wrong();
        promise15Wrong();
        Checks.finish("PortsTest");
    }

    private static void port(Net net, int on, int[] waiting, int[] deficits) {
        String when = " at tick " + net.now();
        int sum = 0;
        for (int f = 0; f < waiting.length; f++) {
            Checks.due("waiting(0, " + f + ")" + when, net.waiting(0, f), waiting[f]);
            Checks.due("deficit(0, " + f + ")" + when, net.deficit(0, f), deficits[f]);
            sum += waiting[f];
        }
        Checks.due("waiting(0, NONE)" + when, net.waiting(0, NONE), sum);
        Checks.due("onPort(0)" + when, net.onPort(0), on);
    }

    private static void turnsByDeficits() {
        Net net = new Net();
        net.link(0, 1, 1, 1, 40);
        net.shape(0, 4, 8);
        net.flow(0, 1, 2, 6);
        net.flow(0, 1, 2, 3);
        net.flow(0, 1, 3, 1);
        port(net, NONE, new int[] {0, 0, 0}, new int[] {0, 0, 0});
        // The first needs two turns; it leaves 2 behind, which is forgotten as the flow has no more waiting then.
        Checks.next(net, 0, Checks.START, 0, 0);
        port(net, 0, new int[] {1, 0, 0}, new int[] {0, 0, 0});
        Checks.next(net, 0, Checks.START, 1, 0);
        Checks.next(net, 0, Checks.START, 2, 0);
        port(net, 0, new int[] {1, 2, 3}, new int[] {0, 0, 0});
        // Flow 0 has 4 and goes to the end with it; flow 1 has 4 and gives 3.
        Checks.next(net, 6, Checks.LEAVE, 0, 0);
        port(net, 256, new int[] {1, 1, 3}, new int[] {4, 1, 0});
        // Flow 1 is served already, so it gets no more and goes to the end with its 1.
        Checks.next(net, 9, Checks.LEAVE, 0, 0);
        port(net, 512, new int[] {1, 1, 2}, new int[] {4, 1, 3});
        // Flow 2 goes on with what it has.
        Checks.next(net, 10, Checks.LEAVE, 0, 0);
        port(net, 513, new int[] {1, 1, 1}, new int[] {4, 1, 2});
        Checks.next(net, 11, Checks.LEAVE, 0, 1);
        port(net, 514, new int[] {1, 1, 0}, new int[] {4, 1, 0});
        Checks.next(net, 12, Checks.LEAVE, 0, 2);
        port(net, 1, new int[] {0, 1, 0}, new int[] {0, 1, 0});
        Checks.next(net, 18, Checks.LEAVE, 0, 1);
        port(net, 257, new int[] {0, 0, 0}, new int[] {0, 0, 0});
        Checks.next(net, 21, Checks.LEAVE, 0, 1);
        port(net, NONE, new int[] {0, 0, 0}, new int[] {0, 0, 0});
    }

    private static void smallQuantumNeedsManyLooks() {
        Net net = new Net();
        net.link(0, 1, 1, 1, 40);
        net.shape(0, 1, 8);
        for (int f = 0; f < 6; f++) {
            net.flow(0, 1, 2, 8);
            net.tune(f, f == 0 ? 2 : 1, 200, 0);
        }
        Checks.due("run(6)", net.run(6), 6);
        port(net, 0, new int[] {1, 1, 1, 1, 1, 1}, new int[] {0, 0, 0, 0, 0, 0});
        Checks.next(net, 8, Checks.LEAVE, 0, 0);
        port(net, 1, new int[] {0, 1, 1, 1, 1, 1}, new int[] {0, 7, 7, 7, 7, 7});
        Checks.next(net, 16, Checks.LEAVE, 0, 1);
        port(net, 256, new int[] {0, 0, 1, 1, 1, 1}, new int[] {0, 0, 7, 7, 7, 7});
        Checks.next(net, 24, Checks.LEAVE, 0, 0);
        port(net, 512, new int[] {0, 0, 0, 1, 1, 1}, new int[] {0, 0, 0, 7, 7, 7});
    }

    private static void roomIsForAllFlows() {
        Net net = new Net();
        net.link(0, 1, 1, 16, 40);
        net.shape(0, 16, 2);
        net.flow(0, 1, 2, 1);
        net.flow(0, 1, 2, 1);
        net.step();
        port(net, 0, new int[] {1, 0}, new int[] {0, 0});
        net.step();
        port(net, 0, new int[] {1, 1}, new int[] {0, 0});
        Checks.due("made", net.count(1, 3), 2);
        Checks.due("lost", net.count(1, 5), 1);
        Checks.due("lost of the other", net.count(0, 5), 0);
        Checks.due("NEXT counts the lost one", net.count(1, 1), 2);
    }

    private static void answersHaveSizeOne() {
        Net net = new Net();
        net.link(0, 1, 1, 3, 0);
        net.shape(1, 1, 1);
        net.flow(0, 1, 1, 8);
        net.flow(1, 0, 1, 8);
        net.tune(1, 1, 200, 1000);
        Checks.next(net, 0, Checks.START, 0, 0);
        Checks.next(net, 24, Checks.LEAVE, 0, 0);
        Checks.due("not on the port that it came from", net.onPort(0), NONE);
        Checks.next(net, 24, Checks.ARRIVE, 1, 0);
        Checks.due("the answer is on the port back", net.onPort(1), 1 + Checks.ANSWER);
        Checks.due("the port there", net.onPort(0), NONE);
        Checks.next(net, 27, Checks.LEAVE, 1, 1 + Checks.ANSWER);
        Checks.due("the port back", net.onPort(1), NONE);
        Checks.next(net, 27, Checks.ARRIVE, 0, 1 + Checks.ANSWER);
        Checks.next(net, 1000, Checks.START, 1, 0);
        Checks.due("data of flow 1", net.onPort(1), 256);
        Checks.next(net, 1024, Checks.LEAVE, 1, 0);
        Checks.next(net, 1024, Checks.ARRIVE, 0, 0);
        Checks.due("the answer of flow 1", net.onPort(0), 256 + 1 + Checks.ANSWER);
    }

    private static void packetsAreLostOnTheWay() {
        Net net = new Net();
        net.link(0, 1, 1, 1, 0);
        net.link(1, 2, 1, 16, 40);
        net.shape(2, 8, 1);
        net.flow(0, 2, 4, 1);
        Checks.next(net, 0, Checks.START, 0, 0);
        Checks.next(net, 1, Checks.LEAVE, 0, 0);
        Checks.next(net, 1, Checks.ARRIVE, 1, 0);
        Checks.due("on the next port", net.onPort(2), 0);
        Checks.next(net, 2, Checks.LEAVE, 0, 1);
        Checks.next(net, 2, Checks.ARRIVE, 1, 1);
        Checks.due("waits there", net.waiting(2, 0), 1);
        Checks.due("not arrived at its end", net.count(0, 4), 0);
        Checks.next(net, 3, Checks.LEAVE, 0, 2);
        Checks.due("not lost yet", net.count(0, 5), 0);
        Checks.next(net, 3, Checks.ARRIVE, 1, 2);
        Checks.due("no room for the third", net.count(0, 5), 1);
        Checks.next(net, 4, Checks.LEAVE, 0, 3);
        Checks.next(net, 4, Checks.ARRIVE, 1, 3);
        Checks.due("no room for the fourth", net.count(0, 5), 2);
        Checks.due("no answer is made on the way", net.count(0, 3), 4);
        Checks.next(net, 17, Checks.LEAVE, 2, 0);
        Checks.next(net, 33, Checks.LEAVE, 2, 1);
        Checks.next(net, 57, Checks.ARRIVE, 2, 0);
        Checks.due("arrived", net.count(0, 4), 1);
    }

    private static final int[] WRONG = {-2, Integer.MIN_VALUE, Integer.MAX_VALUE};

    private static Net small() {
        Net net = new Net();
        net.link(0, 1, 1, 1, 0);
        net.flow(0, 1, 4, 1);
        net.run(2);
        return net;
    }

    private static void promise13Wrong() {
        Net net = small();
        Checks.due("waiting(0, 0)", net.waiting(0, 0), 2);
        Checks.due("waiting(0, NONE)", net.waiting(0, NONE), 2);
        Checks.due("waiting(1, NONE)", net.waiting(1, NONE), 0);
        Checks.due("waiting(2, 0)", net.waiting(2, 0), NONE);
        Checks.due("waiting(2, NONE)", net.waiting(2, NONE), NONE);
        Checks.due("waiting(-1, NONE)", net.waiting(-1, NONE), NONE);
        Checks.due("waiting(0, 1)", net.waiting(0, 1), NONE);
        for (int w : WRONG) {
            Checks.due("waiting(0, " + w + ")", net.waiting(0, w), NONE);
            Checks.due("waiting(" + w + ", 0)", net.waiting(w, 0), NONE);
            Checks.due("waiting(" + w + ", NONE)", net.waiting(w, NONE), NONE);
        }
    }

    private static void promise14Wrong() {
        Net net = small();
        Checks.due("deficit(0, 0)", net.deficit(0, 0), 7);
        Checks.due("deficit(1, 0)", net.deficit(1, 0), 0);
        Checks.due("deficit(2, 0)", net.deficit(2, 0), NONE);
        Checks.due("deficit(-1, 0)", net.deficit(-1, 0), NONE);
        Checks.due("deficit(0, 1)", net.deficit(0, 1), NONE);
        Checks.due("deficit(0, NONE)", net.deficit(0, NONE), NONE);
        for (int w : WRONG) {
            Checks.due("deficit(0, " + w + ")", net.deficit(0, w), NONE);
            Checks.due("deficit(" + w + ", 0)", net.deficit(w, 0), NONE);
        }
    }

    private static void promise15Wrong() {
        Net net = small();
        Checks.due("onPort(0)", net.onPort(0), 1);
        Checks.due("onPort(1)", net.onPort(1), NONE);
        Checks.due("onPort(2)", net.onPort(2), NONE);
        Checks.due("onPort(-1)", net.onPort(-1), NONE);
        for (int w : WRONG) {
            Checks.due("onPort(" + w + ")", net.onPort(w), NONE);
        }
    }
}
