/** Promises 7 to 10: step, run, now, trace, and the order of the events. */
public final class EventsTest {
    private static final int NONE = DeficitNet.NONE;

    public static void main(String[] args) {
        promise7Step();
        promise7WithoutFlows();
        promise8Run();
        promise8Edges();
        promise9Now();
        promise10Trace();
        promise10GreatestNumbers();
        startsComeByTickThenByNumber();
        eventsOfOneTickComeAsTheyWereSet();
        delayNoneIsTheSameTick();
        Checks.finish("EventsTest");
    }

    /** Two packets of size 3 over one link, answered without a TIMEOUT: nine events. */
    private static Net twoPackets() {
        Net net = new Net();
        net.link(0, 1, 1, 2, 3);
        net.flow(0, 1, 2, 3);
        return net;
    }

    private static void promise7Step() {
        Net net = twoPackets();
        Checks.next(net, 0, Checks.START, 0, 0);
        Checks.next(net, 6, Checks.LEAVE, 0, 0);
        Checks.next(net, 9, Checks.ARRIVE, 1, 0);
        Checks.next(net, 11, Checks.LEAVE, 1, 1 + Checks.ANSWER);
        Checks.next(net, 12, Checks.LEAVE, 0, 1);
        Checks.next(net, 14, Checks.ARRIVE, 0, 1 + Checks.ANSWER);
        Checks.next(net, 15, Checks.ARRIVE, 1, 1);
        Checks.next(net, 17, Checks.LEAVE, 1, 2 + Checks.ANSWER);
        Checks.next(net, 20, Checks.ARRIVE, 0, 2 + Checks.ANSWER);
        Checks.noMore(net);
        Checks.noMore(net);
        Checks.due("now() at the end", net.now(), 20);
        Checks.due("the latest event stays", net.trace(0), Checks.event(20, Checks.ARRIVE, 0, 2 + Checks.ANSWER));
    }

    private static void promise7WithoutFlows() {
        Net net = new Net();
        Checks.noMore(net);
        Checks.due("begun: link", net.link(0, 1, 1, 1, 1), NONE);
        Checks.due("begun: flow", net.flow(0, 1, 1, 1), NONE);
        Checks.due("now()", net.now(), 0);
        Checks.due("trace(0)", net.trace(0), NONE);
        Checks.noMore(net);
    }

    private static void promise8Run() {
        Net net = twoPackets();
        Checks.due("run(1)", net.run(1), 1);
        Checks.due("trace(0)", net.trace(0), Checks.event(0, Checks.START, 0, 0));
        Checks.due("run(4)", net.run(4), 4);
        Checks.due("trace(0)", net.trace(0), Checks.event(12, Checks.LEAVE, 0, 1));
        Checks.due("run(0)", net.run(0), 0);
        Checks.due("now()", net.now(), 12);
        Checks.due("run(50)", net.run(50), 4);
        Checks.due("now()", net.now(), 20);
        Checks.due("run(50) at the end", net.run(50), 0);
    }

    private static void promise8Edges() {
        Net net = twoPackets();
        int[] wrong = {-1, 51, Integer.MIN_VALUE, Integer.MAX_VALUE};
        for (int n : wrong) {
            Checks.due("run(" + n + ")", net.run(n), NONE);
        }
        Checks.due("not begun: shape", net.shape(0, 8, 4), true);
        Checks.due("run(0)", net.run(0), 0);
        Checks.due("not begun: tune", net.tune(0, 4, 100, 0), true);
        Checks.due("run(50)", net.run(50), 9);
        Checks.due("wrong run at the end", net.run(51), NONE);
        net.clear();
        Checks.due("run(1) without flows", net.run(1), 0);
        Checks.due("begun then: link", net.link(0, 1, 1, 1, 1), NONE);
        net.clear();
        net.flow(0, 1, 1, 1);
        Checks.due("run(50) of endless TIMEOUTs", net.run(50), 50);
        Checks.due("now() after a START and 49 TIMEOUTs", net.now(), 4900);
    }

    private static void promise9Now() {
        Net net = new Net();
        net.flow(0, 1, 1, 1);
        net.tune(0, 4, 200, 1000);
        Checks.due("now() before", net.now(), 0);
        Checks.due("run(0)", net.run(0), 0);
        Checks.due("now() before", net.now(), 0);
        Checks.next(net, 1000, Checks.START, 0, 0);
        Checks.next(net, 1200, Checks.TIMEOUT, 0, 0);
        net.clear();
        Checks.due("now() after clear()", net.now(), 0);
    }

    private static void promise10Trace() {
        Net net = new Net();
        net.flow(0, 1, 1, 1);
        net.tune(0, 4, 10, 5);
        int[] wrong = {-1, 16, Integer.MIN_VALUE, Integer.MAX_VALUE};
        for (int n = 0; n < 40; n++) {
            for (int k = 0; k < 16; k++) {
                int index = n - 1 - k;
                long want = index < 0 ? NONE
                        : Checks.event(5 + 10 * index, index == 0 ? Checks.START : Checks.TIMEOUT, 0, 0);
                Checks.due("trace(" + k + ") after " + n + " events", net.trace(k), want);
            }
            for (int k : wrong) {
                Checks.due("trace(" + k + ")", net.trace(k), NONE);
            }
            if (n % 13 == 0) {
                net = replay(n);
            }
            net.step();
        }
    }

    /** The same net again after n events, so that no object is used for more than 512 calls. */
    private static Net replay(int n) {
        Net net = new Net();
        net.flow(0, 1, 1, 1);
        net.tune(0, 4, 10, 5);
        net.run(n);
        return net;
    }

    private static void promise10GreatestNumbers() {
        Net net = new Net();
        for (int l = 0; l < 11; l++) {
            net.link(0, 1, 100, 1, 0);
        }
        net.link(6, 7, 1, 1, 0);
        for (int f = 0; f < 6; f++) {
            net.flow(7, 6, f < 5 ? 1 : 100, 1);
        }
        net.tune(5, 1, 200, 1000);
        for (int n = 0; n < 20; n++) {
            net.run(50);
        }
        Checks.noMore(net);
        Checks.due("answer 100 leaves port 22", net.trace(1), Checks.event(1200, Checks.LEAVE, 22, 228));
        Checks.due("answer 100 arrives", net.trace(0), Checks.event(1200, Checks.ARRIVE, 7, 228));
        Checks.due("data 99 leaves port 23", net.trace(3), Checks.event(1199, Checks.LEAVE, 23, 99));
        Checks.due("data 99 arrives", net.trace(2), Checks.event(1199, Checks.ARRIVE, 6, 99));
    }

    private static void startsComeByTickThenByNumber() {
        Net net = new Net();
        int[] births = {7, 3, 7, 0, 3, 1000};
        for (int f = 0; f < 6; f++) {
            net.flow(0, 1, 1, 1);
            net.tune(f, 1, 200, births[f]);
        }
        Checks.next(net, 0, Checks.START, 3, 0);
        Checks.next(net, 3, Checks.START, 1, 0);
        Checks.next(net, 3, Checks.START, 4, 0);
        Checks.next(net, 7, Checks.START, 0, 0);
        Checks.next(net, 7, Checks.START, 2, 0);
        Checks.next(net, 200, Checks.TIMEOUT, 3, 0);
        Checks.next(net, 203, Checks.TIMEOUT, 1, 0);
        Checks.next(net, 203, Checks.TIMEOUT, 4, 0);
    }

    private static void eventsOfOneTickComeAsTheyWereSet() {
        Net net = new Net();
        net.link(0, 1, 1, 5, 10);
        net.flow(0, 1, 1, 2);
        net.flow(2, 3, 1, 1);
        net.tune(0, 1, 10, 0);
        net.tune(1, 1, 10, 20);
        Checks.next(net, 0, Checks.START, 0, 0);
        // Set at tick 0 both, the TIMEOUT before the packet came to the port.
        Checks.next(net, 10, Checks.TIMEOUT, 0, 0);
        Checks.next(net, 10, Checks.LEAVE, 0, 0);
        // Set at the beginning; then by the TIMEOUT of tick 10; then by the LEAVE: the ARRIVE before the next LEAVE.
        Checks.next(net, 20, Checks.START, 1, 0);
        Checks.next(net, 20, Checks.TIMEOUT, 0, 0);
        Checks.next(net, 20, Checks.ARRIVE, 1, 0);
        Checks.next(net, 20, Checks.LEAVE, 0, 0);
    }

    private static void delayNoneIsTheSameTick() {
        Net net = new Net();
        net.link(0, 1, 1, 1, 0);
        net.link(2, 3, 1, 1, 0);
        net.flow(0, 1, 1, 1);
        net.flow(2, 3, 1, 1);
        Checks.next(net, 0, Checks.START, 0, 0);
        Checks.next(net, 0, Checks.START, 1, 0);
        Checks.next(net, 1, Checks.LEAVE, 0, 0);
        Checks.next(net, 1, Checks.LEAVE, 2, 0);
        Checks.next(net, 1, Checks.ARRIVE, 1, 0);
        Checks.next(net, 1, Checks.ARRIVE, 3, 0);
        Checks.next(net, 2, Checks.LEAVE, 1, 1 + Checks.ANSWER);
        Checks.next(net, 2, Checks.LEAVE, 3, 1 + Checks.ANSWER);
        Checks.next(net, 2, Checks.ARRIVE, 0, 1 + Checks.ANSWER);
        Checks.next(net, 2, Checks.ARRIVE, 2, 1 + Checks.ANSWER);
        Checks.noMore(net);
    }
}
