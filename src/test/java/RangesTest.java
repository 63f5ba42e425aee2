import java.util.function.IntPredicate;

/** Each range of the document: the last numbers that are allowed do what they say, the first beside them do not. */
public final class RangesTest {
    private static final int NONE = DeficitNet.NONE;

    public static void main(String[] args) {
        nodesOfLinks();
        nodesOfFlows();
        nodesOfDistanceAndWay();
        costs();
        slownesses();
        delays();
        linksUpToTwelve();
        portsOfTheLinksThatAreThere();
        quantums();
        rooms();
        flowsUpToSix();
        flowsThatAreThere();
        counts();
        sizes();
        windows();
        patiences();
        births();
        eventsOfOneRun();
        placesOfTheTrace();
        kindsOfCount();
        greatestPacketOnAPort();
        Checks.finish("RangesTest");
    }

    /** Allowed from least to most, and nowhere else, with a new net for each number. */
    private static void range(String name, int least, int most, IntPredicate isTaken) {
        for (int x = least - 3; x <= most + 3; x++) {
            Checks.due(name + " " + x + " is taken", isTaken.test(x), x >= least && x <= most);
        }
        // Numbers that come within the range if they are cut down to 8 or 16 bits, or if a sum or a double of them wraps.
        int[] far = {least + (1 << 8), least + (1 << 16), most - (1 << 16), Integer.MIN_VALUE, Integer.MIN_VALUE + least,
            Integer.MIN_VALUE + most, Integer.MAX_VALUE, Integer.MAX_VALUE - most, -most, 1 << 30, 1 << 31};
        for (int x : far) {
            Checks.due(name + " " + x + " is taken", isTaken.test(x), x >= least && x <= most);
        }
    }

    private static Net linked() {
        Net net = new Net();
        net.link(0, 1, 1, 1, 0);
        return net;
    }

    private static Net linkedWithFlow() {
        Net net = linked();
        net.flow(0, 1, 100, 1);
        return net;
    }

    /** "There are the NODES 0 .. 7.", "a or b is no node, a is b" */
    private static void nodesOfLinks() {
        range("first node", 0, 7, a -> new Net().link(a, a == 3 ? 4 : 3, 1, 1, 0) == 0);
        range("second node", 0, 7, b -> new Net().link(b == 3 ? 4 : 3, b, 1, 1, 0) == 0);
        for (int a = -1; a <= 8; a++) {
            for (int b = -1; b <= 8; b++) {
                boolean fine = a != b && a >= 0 && a < 8 && b >= 0 && b < 8;
                Net net = new Net();
                Checks.due("link(" + a + ", " + b + ", ..)", net.link(a, b, 9, 1, 0), fine ? 0 : NONE);
                Checks.due("distance(" + a + ", " + b + ")", net.distance(a, b), fine ? 9 : a == b && a >= 0 && a < 8 ? 0 : NONE);
                Checks.due("way(" + a + ", " + b + ")", net.way(a, b), fine ? 0 : NONE);
                Checks.due("way(" + b + ", " + a + ")", net.way(b, a), fine ? 1 : NONE);
                Checks.due("port 0 is there", net.waiting(0, NONE), fine ? 0 : NONE);
                Checks.due("the next link", net.link(0, 7, 1, 1, 0), fine ? 1 : 0);
            }
        }
    }

    /** "source or sink is no node, they are one" */
    private static void nodesOfFlows() {
        range("source", 0, 7, a -> new Net().flow(a, a == 3 ? 4 : 3, 1, 1) == 0);
        range("sink", 0, 7, b -> new Net().flow(b == 3 ? 4 : 3, b, 1, 1) == 0);
        for (int a = -1; a <= 8; a++) {
            for (int b = -1; b <= 8; b++) {
                boolean fine = a != b && a >= 0 && a < 8 && b >= 0 && b < 8;
                Net net = new Net();
                Checks.due("flow(" + a + ", " + b + ", ..)", net.flow(a, b, 1, 1), fine ? 0 : NONE);
                Checks.due("count(0, 0)", net.count(0, 0), fine ? 0 : NONE);
                Checks.due("the next flow", net.flow(0, 7, 1, 1), fine ? 1 : 0);
            }
        }
    }

    /** "NONE if there is none or one is no node", "NONE if there is none, v is t, or one is no node" */
    private static void nodesOfDistanceAndWay() {
        Net row = new Net();
        for (int v = 0; v < 7; v++) {
            row.link(v, v + 1, 1, 1, 0);
        }
        range("distance from", 0, 7, v -> row.distance(v, 3) == Math.abs(v - 3));
        range("distance to", 0, 7, t -> row.distance(3, t) == Math.abs(t - 3));
        Net again = new Net();
        for (int v = 0; v < 7; v++) {
            again.link(v, v + 1, 1, 1, 0);
        }
        range("way from", 0, 6, v -> again.way(v, 7) == 2 * v);
        range("way to", 0, 6, t -> again.way(7, t) == 13);
    }

    /** "cost is not 1 .. 100" */
    private static void costs() {
        range("cost", 1, 100, cost -> {
            Net net = new Net();
            boolean taken = net.link(0, 1, cost, 1, 0) == 0;
            Checks.due("distance for cost " + cost, net.distance(0, 1), taken ? cost : NONE);
            Checks.due("distance back for cost " + cost, net.distance(1, 0), taken ? cost : NONE);
            Checks.due("number of the next link", net.link(0, 1, 1, 1, 0), taken ? 1 : 0);
            return taken;
        });
    }

    /** "slowness not 1 .. 16": a packet of size 1 leaves after as many ticks, on both ports. */
    private static void slownesses() {
        range("slowness", 1, 16, slowness -> {
            Net net = new Net();
            boolean taken = net.link(0, 1, 1, slowness, 0) == 0;
            net.flow(0, 1, 1, 1);
            net.flow(1, 0, 1, 1);
            if (taken) {
                Checks.next(net, 0, Checks.START, 0, 0);
                Checks.next(net, 0, Checks.START, 1, 0);
                Checks.next(net, slowness, Checks.LEAVE, 0, 0);
                Checks.next(net, slowness, Checks.LEAVE, 1, 0);
            }
            return taken;
        });
    }

    /** "delay not 0 .. 40": a packet arrives as many ticks after it left, over both ports. */
    private static void delays() {
        range("delay", 0, 40, delay -> {
            Net net = new Net();
            boolean taken = net.link(0, 1, 1, 1, delay) == 0;
            net.flow(0, 1, 1, 1);
            net.flow(1, 0, 1, 1);
            if (taken) {
                Checks.due("run(4)", net.run(4), 4);
                Checks.due("they left at tick 1", net.now(), 1);
                Checks.next(net, 1 + delay, Checks.ARRIVE, 1, 0);
                Checks.next(net, 1 + delay, Checks.ARRIVE, 0, 0);
            }
            return taken;
        });
    }

    /** "LINKS 0, 1, .. (at most 12)", "12 are there" */
    private static void linksUpToTwelve() {
        Net net = new Net();
        for (int l = 0; l < 12; l++) {
            Checks.due("link " + l, net.link(0, 1, 100 - l, 1, 0), l);
            Checks.due("distance with link " + l, net.distance(0, 1), 100 - l);
            Checks.due("way with link " + l, net.way(0, 1), 2 * l);
        }
        for (int n = 0; n < 3; n++) {
            Checks.due("one more", net.link(0, 1, 1, 1, 0), NONE);
            Checks.due("one more, of other nodes", net.link(2, 3, 1, 1, 0), NONE);
        }
        Checks.due("distance stays", net.distance(0, 1), 89);
        Checks.due("no distance", net.distance(2, 3), NONE);
        Checks.due("way stays", net.way(1, 0), 23);
        Checks.due("port 23", net.onPort(23) == NONE && net.waiting(23, NONE) == 0, true);
        Checks.due("port 24", net.waiting(24, NONE), NONE);
        net.clear();
        for (int l = 0; l < 12; l++) {
            Checks.due("after clear(), link " + l, net.link(6, 7, 1, 1, 0), l);
        }
        Checks.due("after clear(), one more", net.link(6, 7, 1, 1, 0), NONE);
    }

    /** "there is no such port": with l links the ports are 0 .. 2 l - 1. */
    private static void portsOfTheLinksThatAreThere() {
        for (int links = 0; links <= 12; links++) {
            int most = 2 * links - 1;
            int l = links;
            range("shape with " + links + " links, port", 0, most, port -> withLinks(l).shape(port, 8, 4));
            range("waiting with " + links + " links, port", 0, most, port -> withLinks(l).waiting(port, 0) == 0);
            range("waiting of all with " + links + " links, port", 0, most, port -> withLinks(l).waiting(port, NONE) == 0);
            range("deficit with " + links + " links, port", 0, most, port -> withLinks(l).deficit(port, 0) == 0);
        }
        for (int links = 1; links <= 12; links++) {
            Net net = busyAtTheLastPorts(links);
            int last = 2 * links - 1;
            Checks.due("onPort of the last port", net.onPort(last), 256);
            Checks.due("onPort of the last but one", net.onPort(last - 1), 0);
            Checks.due("onPort after the last", net.onPort(last + 1), NONE);
            Checks.due("waiting at the last port", net.waiting(last, NONE), 3);
            Checks.due("waiting of its flow", net.waiting(last, 1), 3);
            Checks.due("waiting of the other flow", net.waiting(last, 0), 0);
            Checks.due("waiting after the last", net.waiting(last + 1, NONE), NONE);
            Checks.due("deficit at the last port", net.deficit(last, 1), 0);
            Checks.due("deficit after the last", net.deficit(last + 1, 1), NONE);
        }
    }

    private static Net withLinks(int links) {
        Net net = new Net();
        for (int l = 0; l < links; l++) {
            net.link(l % 8, (l + 1) % 8, 1, 1, 0);
        }
        net.flow(0, 1, 1, 1);
        return net;
    }

    /** The last link is the only one of nodes 6 and 7, and flows go over it both ways. */
    private static Net busyAtTheLastPorts(int links) {
        Net net = new Net();
        for (int l = 0; l < links - 1; l++) {
            net.link(l % 5, l % 5 + 1, 1, 1, 0);
        }
        net.link(6, 7, 1, 1, 0);
        net.flow(6, 7, 100, 1);
        net.flow(7, 6, 100, 1);
        net.run(2);
        return net;
    }

    /** "its quantum (1 .. 16)": of a size 1, the deficit is one less while more wait. */
    private static void quantums() {
        for (int p = 0; p < 2; p++) {
            int port = p;
            range("quantum", 1, 16, quantum -> {
                Net net = linked();
                boolean taken = net.shape(port, quantum, 4);
                net.flow(port, 1 - port, 100, 1);
                net.run(2);
                Checks.due("deficit at port " + port, net.deficit(port, 0), taken ? quantum - 1 : 7);
                return taken;
            });
        }
    }

    /** "its room (1 .. 8)": with 16 that come at once, one is on the port, and no more wait than there is room. */
    private static void rooms() {
        for (int p = 0; p < 2; p++) {
            int port = p;
            range("room", 1, 8, room -> {
                Net net = linked();
                boolean taken = net.shape(port, 8, room);
                net.flow(port, 1 - port, 100, 1);
                net.flow(port, 1 - port, 100, 1);
                net.tune(0, 8, 100, 0);
                net.tune(1, 8, 100, 0);
                net.run(2);
                int due = taken ? room : 4;
                Checks.due("waiting at port " + port, net.waiting(port, NONE), due);
                Checks.due("lost", net.count(0, 5) + net.count(1, 5), 16 - 1 - due);
                return taken;
            });
        }
    }

    /** "FLOWS 0, 1, .. (at most 6)", "6 are there" */
    private static void flowsUpToSix() {
        Net net = new Net();
        for (int f = 0; f < 6; f++) {
            Checks.due("before flow " + f, net.count(f, 3), NONE);
            Checks.due("flow " + f, net.flow(0, 1, 1, 1), f);
            Checks.due("after flow " + f, net.count(f, 3), 0);
        }
        for (int n = 0; n < 3; n++) {
            Checks.due("one more", net.flow(0, 1, 1, 1), NONE);
            Checks.due("one more, of other nodes", net.flow(7, 6, 100, 8), NONE);
        }
        Checks.due("count(6, 3)", net.count(6, 3), NONE);
        Checks.due("a START for each of the six, and no more before tick 100", net.run(6), 6);
        Checks.due("now()", net.now(), 0);
        Checks.next(net, 100, Checks.TIMEOUT, 0, 0);
        net.clear();
        for (int f = 0; f < 6; f++) {
            Checks.due("after clear(), flow " + f, net.flow(0, 1, 1, 1), f);
        }
        Checks.due("after clear(), one more", net.flow(0, 1, 1, 1), NONE);
    }

    /** "there is no such flow": with f flows they are 0 .. f - 1. */
    private static void flowsThatAreThere() {
        for (int flows = 0; flows <= 6; flows++) {
            int f = flows;
            int most = flows - 1;
            range("tune with " + flows + " flows, flow", 0, most, flow -> withFlows(f).tune(flow, 4, 100, 0));
            range("count with " + flows + " flows, flow", 0, most, flow -> withFlows(f).count(flow, 0) == 0);
            range("waiting with " + flows + " flows, flow", NONE, most, flow -> withFlows(f).waiting(0, flow) == 0);
            range("deficit with " + flows + " flows, flow", 0, most, flow -> withFlows(f).deficit(0, flow) == 0);
            range("timer with " + flows + " flows, flow", 0, most, flow -> {
                Net net = withFlows(f);
                net.run(f);
                return net.timer(flow) == 100;
            });
        }
    }

    private static Net withFlows(int flows) {
        Net net = linked();
        for (int f = 0; f < flows; f++) {
            net.flow(0, 1, 1, 1);
        }
        return net;
    }

    /** "count is not 1 .. 100": as many are sent, and no more. */
    private static void counts() {
        range("count", 1, 100, count -> {
            Net net = linked();
            boolean taken = net.flow(0, 1, count, 1) == 0;
            for (int n = 0; n < 9; n++) {
                net.run(50);
            }
            for (int what = 0; what < 3; what++) {
                Checks.due("count(0, " + what + ") of " + count, net.count(0, what), taken ? count : NONE);
            }
            Checks.due("made, of " + count, net.count(0, 3), taken ? 2 * count : NONE);
            Checks.due("arrived, of " + count, net.count(0, 4), taken ? 2 * count : NONE);
            Checks.due("lost, of " + count, net.count(0, 5), taken ? 0 : NONE);
            Checks.due("timer at the end", net.timer(0), NONE);
            return taken;
        });
    }

    /** "size not 1 .. 8": data need as many ticks with slowness 1, the answer needs one. */
    private static void sizes() {
        range("size", 1, 8, size -> {
            Net net = linked();
            boolean taken = net.flow(0, 1, 1, size) == 0;
            if (taken) {
                Checks.next(net, 0, Checks.START, 0, 0);
                Checks.next(net, size, Checks.LEAVE, 0, 0);
                Checks.next(net, size, Checks.ARRIVE, 1, 0);
                Checks.next(net, size + 1, Checks.LEAVE, 1, 1 + Checks.ANSWER);
            }
            return taken;
        });
    }

    /** "its window (1 .. 8)" */
    private static void windows() {
        range("window", 1, 8, window -> {
            Net net = linkedWithFlow();
            boolean taken = net.tune(0, window, 100, 0);
            net.step();
            Checks.due("NEXT with window " + window, net.count(0, 1), taken ? window : 4);
            Checks.due("made with window " + window, net.count(0, 3), taken ? window : 4);
            return taken;
        });
    }

    /** "patience (1 .. 200)" */
    private static void patiences() {
        range("patience", 1, 200, patience -> {
            Net net = new Net();
            net.flow(0, 1, 1, 1);
            boolean taken = net.tune(0, 1, patience, 0);
            int due = taken ? patience : 100;
            Checks.next(net, 0, Checks.START, 0, 0);
            Checks.due("timer with patience " + patience, net.timer(0), due);
            Checks.next(net, due, Checks.TIMEOUT, 0, 0);
            Checks.due("timer with patience " + patience, net.timer(0), 2 * due);
            return taken;
        });
    }

    /** "birth (0 .. 1000)" */
    private static void births() {
        range("birth", 0, 1000, birth -> {
            Net net = new Net();
            net.flow(0, 1, 1, 1);
            boolean taken = net.tune(0, 1, 100, birth);
            Checks.due("now() before", net.now(), 0);
            Checks.next(net, taken ? birth : 0, Checks.START, 0, 0);
            Checks.due("timer", net.timer(0), taken ? birth + 100 : 100);
            return taken;
        });
    }

    /** "Makes n events (0 .. 50), or fewer if no more are there; how many. NONE (refused) for another n." */
    private static void eventsOfOneRun() {
        range("n of run", 0, 50, n -> {
            Net net = new Net();
            net.flow(0, 1, 1, 1);
            net.tune(0, 1, 1, 0);
            int made = net.run(n);
            boolean taken = made != NONE;
            Checks.due("run(" + n + ")", made, taken ? n : NONE);
            Checks.due("now() after run(" + n + ")", net.now(), taken && n > 0 ? n - 1 : 0);
            Checks.due("begun after run(" + n + ")", net.tune(0, 1, 1, 0), !taken || n == 0);
            return taken;
        });
        for (int n = 0; n <= 50; n++) {
            Net net = linked();
            net.flow(0, 1, 12, 1);
            net.tune(0, 1, 100, 0);
            Checks.due("49 events in all, run(" + n + ")", net.run(n), Math.min(n, 49));
            Checks.due("and then run(50)", net.run(50), 49 - Math.min(n, 49));
            Checks.due("and then run(50)", net.run(50), 0);
            Checks.due("and then run(0)", net.run(0), 0);
            Checks.due("and then step()", net.step(), false);
        }
    }

    /** "The k-th event counted from the latest (0 .. 15)", "NONE if there were not so many or k is not 0 .. 15." */
    private static void placesOfTheTrace() {
        for (int n = 0; n <= 50; n++) {
            int events = n;
            range("k of trace after " + n + " events", 0, Math.min(15, n - 1), k -> {
                Net net = new Net();
                net.flow(0, 1, 1, 1);
                net.tune(0, 1, 1, 0);
                net.run(events);
                int tick = events - 1 - k;
                long answer = net.trace(k);
                boolean taken = answer != NONE;
                if (taken) {
                    Checks.due("trace(" + k + ") after " + events, answer,
                            Checks.event(tick, tick == 0 ? Checks.START : Checks.TIMEOUT, 0, 0));
                }
                return taken;
            });
        }
    }

    /** "0 BASE, 1 NEXT, 2 EXPECTED; .. (3; ..), .. (4), .. (5); .. (6). NONE for another number or flow." */
    private static void kindsOfCount() {
        range("what of count", 0, 6, what -> linkedWithFlow().count(0, what) == 0);
        range("what of count, begun", 0, 6, what -> {
            Net net = linkedWithFlow();
            net.run(20);
            return net.count(0, what) != NONE;
        });
    }

    /** "256 * flow + number, + 128 if it is an answer": the last flow's last data, and their answer */
    private static void greatestPacketOnAPort() {
        Net net = linked();
        for (int f = 0; f < 6; f++) {
            net.flow(0, 1, 100, 1);
            net.tune(f, 1, 200, f == 5 ? 0 : 1000);
        }
        // A START, and four events for each of 99 packets.
        for (int n = 0; n < 7; n++) {
            Checks.due("run(50)", net.run(50), 50);
        }
        Checks.due("run(47)", net.run(47), 47);
        Checks.due("data 99 of flow 5", net.onPort(0), 5 * 256 + 99);
        Checks.due("nothing on the port back", net.onPort(1), NONE);
        Checks.next(net, 199, Checks.LEAVE, 0, 99);
        Checks.next(net, 199, Checks.ARRIVE, 1, 99);
        Checks.due("nothing on the port there", net.onPort(0), NONE);
        Checks.due("answer 100 of flow 5", net.onPort(1), 5 * 256 + 100 + Checks.ANSWER);
        Checks.next(net, 200, Checks.LEAVE, 1, 100 + Checks.ANSWER);
        Checks.next(net, 200, Checks.ARRIVE, 0, 100 + Checks.ANSWER);
        Checks.due("BASE is the count", net.count(5, 0), 100);
        Checks.due("no timer", net.timer(5), NONE);
        Checks.next(net, 1000, Checks.START, 0, 0);
    }
}
