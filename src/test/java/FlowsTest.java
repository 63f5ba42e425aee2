/** Promises 16 and 17: timer and count, and how a flow sends, answers and sends again. */
public final class FlowsTest {
    private static final int NONE = DeficitNet.NONE;

    public static void main(String[] args) {
        sendsAgain();
        noWay();
        windowAndCountLimitNext();
        outOfOrderDataAreAnsweredAlike();
        netHoldsSixtyFour();
        promise16Timer();
        promise17Wrong();
        Checks.finish("FlowsTest");
    }

    /** Looks at flow 0: its timer, BASE, NEXT, EXPECTED, made, arrived, lost, TIMEOUTs. */
    private static void flow(Net net, int timer, int... counts) {
        String when = " at tick " + net.now();
        Checks.due("timer(0)" + when, net.timer(0), timer);
        for (int what = 0; what < counts.length; what++) {
            Checks.due("count(0, " + what + ")" + when, net.count(0, what), counts[what]);
        }
    }

    private static void sendsAgain() {
        Net net = new Net();
        net.link(0, 1, 1, 1, 10);
        net.flow(0, 1, 3, 1);
        net.tune(0, 2, 15, 0);
        flow(net, NONE, 0, 0, 0, 0, 0, 0, 0);
        Checks.next(net, 0, Checks.START, 0, 0);
        flow(net, 15, 0, 2, 0, 2, 0, 0, 0);
        Checks.next(net, 1, Checks.LEAVE, 0, 0);
        Checks.next(net, 2, Checks.LEAVE, 0, 1);
        Checks.next(net, 11, Checks.ARRIVE, 1, 0);
        flow(net, 15, 0, 2, 1, 3, 1, 0, 0);
        Checks.next(net, 12, Checks.ARRIVE, 1, 1);
        flow(net, 15, 0, 2, 2, 4, 2, 0, 0);
        Checks.next(net, 12, Checks.LEAVE, 1, 1 + Checks.ANSWER);
        Checks.next(net, 13, Checks.LEAVE, 1, 2 + Checks.ANSWER);
        Checks.next(net, 15, Checks.TIMEOUT, 0, 0);
        flow(net, 30, 0, 2, 2, 6, 2, 0, 1);
        Checks.next(net, 16, Checks.LEAVE, 0, 0);
        Checks.next(net, 17, Checks.LEAVE, 0, 1);
        Checks.next(net, 22, Checks.ARRIVE, 0, 1 + Checks.ANSWER);
        flow(net, 37, 1, 3, 2, 7, 3, 0, 1);
        Checks.next(net, 23, Checks.ARRIVE, 0, 2 + Checks.ANSWER);
        flow(net, 38, 2, 3, 2, 7, 4, 0, 1);
        Checks.next(net, 23, Checks.LEAVE, 0, 2);
        // Data that were there before are answered once more.
        Checks.next(net, 26, Checks.ARRIVE, 1, 0);
        flow(net, 38, 2, 3, 2, 8, 5, 0, 1);
        Checks.next(net, 27, Checks.ARRIVE, 1, 1);
        Checks.next(net, 27, Checks.LEAVE, 1, 2 + Checks.ANSWER);
        Checks.next(net, 28, Checks.LEAVE, 1, 2 + Checks.ANSWER);
        Checks.next(net, 33, Checks.ARRIVE, 1, 2);
        Checks.next(net, 34, Checks.LEAVE, 1, 3 + Checks.ANSWER);
        // An answer that is not above BASE does nothing.
        Checks.next(net, 37, Checks.ARRIVE, 0, 2 + Checks.ANSWER);
        flow(net, 38, 2, 3, 3, 10, 8, 0, 1);
        Checks.next(net, 38, Checks.TIMEOUT, 0, 2);
        flow(net, 53, 2, 3, 3, 11, 8, 0, 2);
        Checks.next(net, 38, Checks.ARRIVE, 0, 2 + Checks.ANSWER);
        Checks.next(net, 39, Checks.LEAVE, 0, 2);
        // All are answered: no timer any more.
        Checks.next(net, 44, Checks.ARRIVE, 0, 3 + Checks.ANSWER);
        flow(net, NONE, 3, 3, 3, 11, 10, 0, 2);
        Checks.next(net, 49, Checks.ARRIVE, 1, 2);
        Checks.next(net, 50, Checks.LEAVE, 1, 3 + Checks.ANSWER);
        Checks.next(net, 60, Checks.ARRIVE, 0, 3 + Checks.ANSWER);
        flow(net, NONE, 3, 3, 3, 12, 12, 0, 2);
        Checks.noMore(net);
    }

    private static void noWay() {
        Net net = new Net();
        net.link(0, 2, 1, 1, 1);
        net.flow(0, 1, 100, 1);
        net.tune(0, 8, 1, 0);
        Checks.next(net, 0, Checks.START, 0, 0);
        flow(net, 1, 0, 8, 0, 8, 0, 8, 0);
        Checks.next(net, 1, Checks.TIMEOUT, 0, 0);
        flow(net, 2, 0, 8, 0, 16, 0, 16, 1);
        Checks.due("run(50)", net.run(50), 50);
        flow(net, 52, 0, 8, 0, 416, 0, 416, 51);
    }

    private static void windowAndCountLimitNext() {
        Net net = new Net();
        net.link(0, 1, 1, 1, 0);
        net.flow(0, 1, 2, 1);
        net.tune(0, 8, 100, 0);
        net.step();
        flow(net, 100, 0, 2, 0, 2, 0, 0, 0);
        net.clear();
        net.link(0, 1, 1, 1, 0);
        net.flow(0, 1, 100, 1);
        net.tune(0, 1, 100, 0);
        Checks.next(net, 0, Checks.START, 0, 0);
        flow(net, 100, 0, 1, 0, 1, 0, 0, 0);
        Checks.next(net, 1, Checks.LEAVE, 0, 0);
        Checks.next(net, 1, Checks.ARRIVE, 1, 0);
        Checks.next(net, 2, Checks.LEAVE, 1, 1 + Checks.ANSWER);
        // BASE has come up to NEXT, so the TIMEOUT is set by the filling.
        Checks.next(net, 2, Checks.ARRIVE, 0, 1 + Checks.ANSWER);
        flow(net, 102, 1, 2, 1, 3, 2, 0, 0);
    }

    /** The first of three is lost for want of room; the second and third are answered with 0. */
    private static void outOfOrderDataAreAnsweredAlike() {
        Net net = new Net();
        net.link(3, 0, 1, 1, 0);
        net.link(0, 1, 1, 5, 0);
        net.shape(2, 8, 1);
        net.flow(0, 1, 2, 1);
        net.flow(3, 1, 3, 1);
        net.tune(0, 2, 200, 0);
        net.tune(1, 3, 200, 3);
        net.run(2);
        Checks.due("tick of START of flow 1", net.now(), 3);
        net.run(2);
        Checks.due("tick of its first at node 0", net.now(), 4);
        Checks.due("the first of flow 1 is lost", net.count(1, 5), 1);
        Checks.next(net, 5, Checks.LEAVE, 2, 0);
        Checks.next(net, 5, Checks.LEAVE, 0, 1);
        Checks.next(net, 5, Checks.ARRIVE, 1, 0);
        Checks.next(net, 5, Checks.ARRIVE, 0, 1);
        Checks.due("it waits", net.waiting(2, 1), 1);
        for (int n = 0; n < 50 && net.count(1, 4) == 0 && net.step(); n++) {
            Checks.due("EXPECTED of flow 1", net.count(1, 2), 0);
        }
        Checks.due("the second arrived", net.trace(0) % 1048576, Checks.event(0, Checks.ARRIVE, 1, 1));
        Checks.due("EXPECTED stays", net.count(1, 2), 0);
        Checks.due("three data and an answer were made", net.count(1, 3), 4);
        boolean seen = false;
        for (int n = 0; n < 20 && !seen; n++) {
            net.step();
            seen = net.trace(0) % 1048576 == Checks.event(0, Checks.ARRIVE, 3, Checks.ANSWER);
        }
        Checks.holds("answer 0 came to the source", seen);
        Checks.due("BASE stays", net.count(1, 0), 0);
        Checks.due("the timer stays", net.timer(1), 203);
    }

    /** Six flows that each have a link and are without patience: 48 in the net, then 6 more at each tick. */
    private static void netHoldsSixtyFour() {
        Net net = new Net();
        for (int f = 0; f < 6; f++) {
            net.link(f, f + 1, 1, 1, 40);
            net.shape(2 * f, 8, 8);
            net.flow(f, f + 1, 100, 1);
            net.tune(f, 8, 1, 0);
        }
        Checks.due("run(6)", net.run(6), 6);
        Checks.due("two ticks", net.run(24), 24);
        Checks.due("now()", net.now(), 2);
        Checks.due("in the net", inNet(net), 60);
        Checks.due("up to flow 3", net.run(8), 8);
        Checks.due("in the net", inNet(net), 64);
        int lost = net.count(4, 5);
        Checks.next(net, 3, Checks.TIMEOUT, 4, 0);
        Checks.due("in the net", inNet(net), 64);
        Checks.due("all eight are lost at once", net.count(4, 5), lost + 8);
        Checks.due("they count as made", net.count(4, 3), 8 * 4);
        Checks.due("they do not wait", net.waiting(8, 4), 7);
        Checks.due("NEXT grew all the same", net.count(4, 1), 8);
    }

    private static int inNet(Net net) {
        int sum = 0;
        for (int f = 0; f < 6; f++) {
            sum += net.count(f, 3) - net.count(f, 4) - net.count(f, 5);
        }
        return sum;
    }

    private static void promise16Timer() {
        Net net = new Net();
        net.link(0, 1, 1, 1, 0);
        net.flow(0, 1, 1, 1);
        net.flow(0, 1, 1, 1);
        net.tune(1, 4, 1, 50);
        Checks.due("before the beginning", net.timer(1), NONE);
        net.step();
        Checks.due("started", net.timer(0), 100);
        Checks.due("begun but not started", net.timer(1), NONE);
        net.run(4);
        Checks.due("answered", net.timer(0), NONE);
        Checks.next(net, 50, Checks.START, 1, 0);
        Checks.due("started", net.timer(1), 51);
        int[] wrong = {-1, 2, 6, 7, 70, Integer.MIN_VALUE, Integer.MAX_VALUE};
        for (int w : wrong) {
            Checks.due("timer(" + w + ")", net.timer(w), NONE);
        }
    }

    private static void promise17Wrong() {
        Net net = new Net();
        net.flow(0, 1, 1, 1);
        int[] wrong = {-1, 7, Integer.MIN_VALUE, Integer.MAX_VALUE};
        for (int w : wrong) {
            Checks.due("count(0, " + w + ")", net.count(0, w), NONE);
            Checks.due("count(" + w + ", 0)", net.count(w, 0), NONE);
        }
        Checks.due("count(1, 0)", net.count(1, 0), NONE);
        for (int what = 0; what < 7; what++) {
            Checks.due("count(0, " + what + ")", net.count(0, what), 0);
        }
    }
}
