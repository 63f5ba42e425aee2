/** "Terms", its first half: nodes, links, ports, flows, distances, ways, packets in the net. A test for each sentence. */
public final class NetTermsTest {
    private static final int NONE = DeficitNet.NONE;

    public static void main(String[] args) {
        linkHasTwoPorts();
        twoNodesMayBeJoinedBySeveral();
        bothPortsHaveTheLinksNumbers();
        eachPortHasItsOwnQuantumAndRoom();
        quantumAndRoomAtFirst();
        windowPatienceAndBirthAtFirst();
        flowsAreAsAtFirst();
        distanceToItselfIsNone();
        thereMayBeNoDistance();
        distanceIsTheLeastSum();
        wayIsTheLeastPort();
        wayMayHaveAGreaterNumberThanAPortThatIsNotOne();
        dataAndAnswers();
        sixtyFourthIsInTheNetAndTheNextIsLost();
        lostAtOnceAlsoWhereThereIsNoWay();
        arrivedDataAreInTheNetNoMore();
        arrivedAnswersAreInTheNetNoMore();
        lostPacketsAreInTheNetNoMore();
        Checks.finish("NetTermsTest");
    }

    /** "2 l at its first node, to the second, and 2 l + 1 at its second node, to the first" */
    private static void linkHasTwoPorts() {
        Net net = new Net();
        net.link(0, 7, 5, 1, 0);
        net.link(7, 3, 5, 1, 0);
        Checks.due("from the first node", net.way(0, 7), 0);
        Checks.due("from the second node", net.way(7, 0), 1);
        Checks.due("from the first node of link 1", net.way(7, 3), 2);
        Checks.due("from the second node of link 1", net.way(3, 7), 3);
        net.flow(3, 0, 1, 1);
        Checks.next(net, 0, Checks.START, 0, 0);
        Checks.due("it goes over port 3", net.onPort(3), 0);
        Checks.next(net, 1, Checks.LEAVE, 3, 0);
        Checks.next(net, 1, Checks.ARRIVE, 7, 0);
        Checks.due("and over port 1", net.onPort(1), 0);
        Checks.next(net, 2, Checks.LEAVE, 1, 0);
        Checks.next(net, 2, Checks.ARRIVE, 0, 0);
        Checks.next(net, 3, Checks.LEAVE, 0, 1 + Checks.ANSWER);
        Checks.next(net, 3, Checks.ARRIVE, 7, 1 + Checks.ANSWER);
        Checks.next(net, 4, Checks.LEAVE, 2, 1 + Checks.ANSWER);
        Checks.next(net, 4, Checks.ARRIVE, 3, 1 + Checks.ANSWER);
        Checks.noMore(net);
    }

    /** "two nodes may be joined by several" */
    private static void twoNodesMayBeJoinedBySeveral() {
        Net net = new Net();
        Checks.due("a link", net.link(3, 4, 7, 1, 0), 0);
        Checks.due("the same again", net.link(3, 4, 7, 1, 0), 1);
        Checks.due("the other way round", net.link(4, 3, 7, 1, 0), 2);
        Checks.due("the least port", net.way(3, 4), 0);
        Checks.due("the least port, back", net.way(4, 3), 1);
        Checks.due("a cheaper one", net.link(4, 3, 6, 1, 0), 3);
        Checks.due("distance", net.distance(3, 4), 6);
        Checks.due("its port", net.way(3, 4), 7);
        Checks.due("its port, back", net.way(4, 3), 6);
        Checks.due("one that is dearer", net.link(3, 4, 8, 1, 0), 4);
        Checks.due("distance stays", net.distance(4, 3), 6);
        Checks.due("way stays", net.way(3, 4), 7);
    }

    /** "Both have the link's COST, SLOWNESS and DELAY" */
    private static void bothPortsHaveTheLinksNumbers() {
        Net net = new Net();
        net.link(0, 1, 1, 1, 0);
        net.link(2, 3, 100, 16, 40);
        net.flow(2, 3, 1, 1);
        net.flow(3, 2, 1, 1);
        Checks.due("cost there", net.distance(2, 3), 100);
        Checks.due("cost back", net.distance(3, 2), 100);
        Checks.next(net, 0, Checks.START, 0, 0);
        Checks.next(net, 0, Checks.START, 1, 0);
        Checks.next(net, 16, Checks.LEAVE, 2, 0);
        Checks.next(net, 16, Checks.LEAVE, 3, 0);
        Checks.next(net, 56, Checks.ARRIVE, 3, 0);
        Checks.next(net, 56, Checks.ARRIVE, 2, 0);
        Checks.next(net, 72, Checks.LEAVE, 3, 1 + Checks.ANSWER);
        Checks.next(net, 72, Checks.LEAVE, 2, 1 + Checks.ANSWER);
        Checks.next(net, 100, Checks.TIMEOUT, 0, 0);
        Checks.next(net, 100, Checks.TIMEOUT, 1, 0);
        Checks.next(net, 112, Checks.ARRIVE, 2, 1 + Checks.ANSWER);
    }

    /** "each has a QUANTUM .. and a ROOM": the two ports of a link, and those of another, keep their own. */
    private static void eachPortHasItsOwnQuantumAndRoom() {
        Net net = new Net();
        net.link(0, 1, 1, 1, 40);
        net.link(2, 3, 1, 1, 40);
        net.shape(0, 1, 1);
        net.shape(1, 16, 8);
        net.shape(3, 5, 6);
        int[] sources = {0, 1, 2, 3};
        int[] sinks = {1, 0, 3, 2};
        int[] quantums = {1, 16, 8, 5};
        int[] rooms = {1, 8, 4, 6};
        for (int f = 0; f < 4; f++) {
            net.flow(sources[f], sinks[f], 100, 1);
            net.tune(f, 8, 200, 0);
        }
        Checks.due("run(4)", net.run(4), 4);
        for (int p = 0; p < 4; p++) {
            int waiting = Math.min(7, rooms[p]);
            Checks.due("waiting(" + p + ", NONE)", net.waiting(p, NONE), waiting);
            Checks.due("lost of flow " + p, net.count(p, 5), 7 - waiting);
        }
        Checks.due("run(4)", net.run(4), 4);
        for (int p = 1; p < 4; p++) {
            Checks.due("deficit(" + p + ", " + p + ")", net.deficit(p, p), quantums[p] - 1);
        }
        Checks.due("deficit(0, 0), as none waits", net.deficit(0, 0), 0);
    }

    /** "a QUANTUM (8 at first) and a ROOM (4 at first)", at the first and the last port, also after clear() */
    private static void quantumAndRoomAtFirst() {
        Net net = new Net();
        for (int round = 0; round < 2; round++) {
            for (int l = 0; l < 11; l++) {
                net.link(0, 1, 1, 1, 0);
            }
            net.link(6, 7, 1, 1, 40);
            net.flow(0, 1, 100, 1);
            net.flow(7, 6, 100, 1);
            net.tune(0, 8, 200, 0);
            net.tune(1, 8, 200, 0);
            net.run(2);
            for (int f = 0; f < 2; f++) {
                Checks.due("waiting with the first room", net.waiting(23 * f, NONE), 4);
                Checks.due("lost", net.count(f, 5), 3);
            }
            net.run(2);
            for (int f = 0; f < 2; f++) {
                Checks.due("first quantum, less 1", net.deficit(23 * f, f), 7);
            }
            net.clear();
            net.link(0, 1, 1, 1, 0);
            net.shape(0, 3, 2);
            net.clear();
        }
    }

    /** "a WINDOW (4 at first), a PATIENCE (100 at first) and a BIRTH (0 at first)", also after clear() */
    private static void windowPatienceAndBirthAtFirst() {
        Net net = new Net();
        for (int round = 0; round < 2; round++) {
            for (int f = 0; f < 6; f++) {
                net.flow(0, 1, 100, 1);
            }
            for (int f = 0; f < 6; f++) {
                Checks.next(net, 0, Checks.START, f, 0);
                Checks.due("NEXT by the first window", net.count(f, 1), 4);
                Checks.due("timer by the first patience", net.timer(f), 100);
            }
            net.clear();
            for (int f = 0; f < 6; f++) {
                net.flow(0, 1, 100, 1);
                net.tune(f, 1, 1, 1);
            }
            net.clear();
        }
    }

    /** "A flow has BASE, NEXT and EXPECTED, 0 at first, and a TIMER, not set at first." */
    private static void flowsAreAsAtFirst() {
        Net net = new Net();
        net.link(0, 1, 1, 1, 0);
        for (int f = 0; f < 6; f++) {
            net.flow(0, 1, 100, 1);
            net.tune(f, 8, 200, 10 * f);
        }
        for (int round = 0; round < 2; round++) {
            for (int f = round; f < 6; f++) {
                for (int what = 0; what < 7; what++) {
                    Checks.due("count(" + f + ", " + what + ")", net.count(f, what), 0);
                }
                Checks.due("timer(" + f + ")", net.timer(f), NONE);
                Checks.due("waiting(0, " + f + ")", net.waiting(0, f), 0);
                Checks.due("deficit(0, " + f + ")", net.deficit(0, f), 0);
            }
            // The others have not had their START.
            net.step();
        }
    }

    /** "0 if v is t", without and with links */
    private static void distanceToItselfIsNone() {
        Net net = new Net();
        for (int v = 0; v < 8; v++) {
            Checks.due("distance to itself", net.distance(v, v), 0);
            Checks.due("way to itself", net.way(v, v), NONE);
        }
        for (int v = 0; v < 7; v++) {
            net.link(v, v + 1, 1, 1, 1);
            net.link(v, v + 1, 1, 1, 1);
        }
        for (int v = 0; v < 8; v++) {
            Checks.due("distance to itself", net.distance(v, v), 0);
            Checks.due("way to itself", net.way(v, v), NONE);
        }
    }

    /** "there may be none": two parts, and a node by itself */
    private static void thereMayBeNoDistance() {
        Net net = new Net();
        net.link(0, 1, 1, 1, 1);
        net.link(2, 3, 1, 1, 1);
        int[][] apart = {{0, 2}, {0, 3}, {1, 2}, {1, 3}, {0, 7}, {7, 3}, {6, 7}};
        for (int[] pair : apart) {
            Checks.due("distance", net.distance(pair[0], pair[1]), NONE);
            Checks.due("distance back", net.distance(pair[1], pair[0]), NONE);
            Checks.due("way", net.way(pair[0], pair[1]), NONE);
            Checks.due("way back", net.way(pair[1], pair[0]), NONE);
        }
        net.link(3, 1, 100, 1, 1);
        Checks.due("joined", net.distance(0, 2), 102);
        Checks.due("joined, back", net.distance(2, 0), 102);
        Checks.due("way", net.way(0, 2), 0);
        Checks.due("way back", net.way(2, 0), 2);
    }

    /** "the least sum of the costs": one less by a detour, the same, one more */
    private static void distanceIsTheLeastSum() {
        for (int direct = 9; direct <= 11; direct++) {
            Net net = new Net();
            net.link(0, 1, 4, 1, 1);
            net.link(1, 2, 6, 1, 1);
            net.link(0, 2, direct, 1, 1);
            Checks.due("distance with " + direct, net.distance(0, 2), Math.min(direct, 10));
            Checks.due("distance back with " + direct, net.distance(2, 0), Math.min(direct, 10));
            Checks.due("way with " + direct, net.way(0, 2), direct < 10 ? 4 : 0);
            Checks.due("way back with " + direct, net.way(2, 0), direct < 10 ? 5 : 3);
        }
        Net row = new Net();
        for (int v = 6; v >= 0; v--) {
            row.link(v, v + 1, 100, 1, 1);
        }
        Checks.due("the greatest distance", row.distance(0, 7), 700);
        Checks.due("the greatest distance, back", row.distance(7, 0), 700);
        row.link(7, 0, 100, 1, 1);
        Checks.due("now a ring", row.distance(0, 7), 100);
        Checks.due("four of eight, either way", row.distance(0, 4), 400);
        Checks.due("of two ways the least port", row.way(0, 4), 12);
        Checks.due("of two ways the least port, back", row.way(4, 0), 4);
    }

    /** "the port with the least number among those at v": it may be an odd one, and may lead to another node */
    private static void wayIsTheLeastPort() {
        Net net = new Net();
        net.link(1, 0, 2, 1, 1);
        net.link(0, 2, 4, 1, 1);
        net.link(1, 2, 2, 1, 1);
        Checks.due("port 1 over node 1, not port 2", net.way(0, 2), 1);
        Checks.due("port 3 at once, not port 5 over node 1", net.way(2, 0), 3);
    }

    /** A port with a lesser number that is at another node, or is not of the least sum, is not the way. */
    private static void wayMayHaveAGreaterNumberThanAPortThatIsNotOne() {
        Net net = new Net();
        net.link(3, 4, 1, 1, 1);
        net.link(0, 1, 3, 1, 1);
        net.link(0, 4, 2, 1, 1);
        net.link(1, 4, 1, 1, 1);
        net.link(0, 4, 1, 1, 1);
        Checks.due("distance", net.distance(0, 3), 2);
        Checks.due("way", net.way(0, 3), 8);
        Checks.due("way from 1 to 0", net.way(1, 0), 6);
        Checks.due("distance from 1 to 0", net.distance(1, 0), 2);
    }

    /** "DATA have the flow's size .. ANSWERS have the size 1": with the greatest size and slowness */
    private static void dataAndAnswers() {
        Net net = new Net();
        net.link(0, 1, 1, 16, 0);
        net.flow(0, 1, 1, 8);
        net.tune(0, 1, 200, 0);
        Checks.next(net, 0, Checks.START, 0, 0);
        Checks.due("data 0 are on the port", net.onPort(0), 0);
        Checks.next(net, 128, Checks.LEAVE, 0, 0);
        Checks.next(net, 128, Checks.ARRIVE, 1, 0);
        Checks.due("answer 1 is on the port back", net.onPort(1), 129);
        Checks.next(net, 144, Checks.LEAVE, 1, 129);
        Checks.next(net, 144, Checks.ARRIVE, 0, 129);
        Checks.noMore(net);
    }

    private static int inNet(Net net) {
        int sum = 0;
        for (int f = 0; f < 6; f++) {
            sum += net.count(f, 3) - net.count(f, 4) - net.count(f, 5);
        }
        return sum;
    }

    /**
     * Flow f sends over link f alone, all of its eight on their way when it sends them again at tick 20 + f;
     * flow 1 has seven only: 47 are in the net at first, 62 when flow 2 sends again.
     */
    private static Net nearlyFull() {
        Net net = new Net();
        for (int f = 0; f < 6; f++) {
            net.link(f, f + 1, 1, 1, 40);
            net.shape(2 * f, 8, 8);
            net.flow(f, f + 1, 100, 1);
            net.tune(f, f == 1 ? 7 : 8, 20 + f, 0);
        }
        Checks.due("run(50)", net.run(50), 50);
        Checks.due("all STARTs and LEAVEs", net.run(3), 3);
        Checks.due("in the net at first", inNet(net), 47);
        Checks.due("now()", net.now(), 8);
        Checks.next(net, 20, Checks.TIMEOUT, 0, 0);
        Checks.due("in the net after eight more", inNet(net), 55);
        // One of flow 0 leaves its port at tick 21, after the TIMEOUT, which was set first.
        Checks.next(net, 21, Checks.TIMEOUT, 1, 0);
        Checks.due("in the net after seven more", inNet(net), 62);
        Checks.due("none is lost yet", net.count(0, 5) + net.count(1, 5), 0);
        Checks.next(net, 21, Checks.LEAVE, 0, 0);
        return net;
    }

    /** "when 64 are in the net, a packet that is made is lost at once" */
    private static void sixtyFourthIsInTheNetAndTheNextIsLost() {
        Net net = nearlyFull();
        Checks.next(net, 22, Checks.TIMEOUT, 2, 0);
        Checks.due("in the net", inNet(net), 64);
        Checks.due("the 63rd is on the port", net.onPort(4), 2 * 256);
        Checks.due("the 64th waits", net.waiting(4, 2), 1);
        Checks.due("the six others are lost, though there is room", net.count(2, 5), 6);
        Checks.due("they were made", net.count(2, 3), 16);
        Checks.due("NEXT grew over them", net.count(2, 1), 8);
        Checks.due("the timer is set", net.timer(2), 44);
        net.run(2);
        Checks.next(net, 23, Checks.TIMEOUT, 3, 0);
        Checks.due("in the net", inNet(net), 64);
        Checks.due("nothing is on the port of flow 3", net.onPort(6), NONE);
        Checks.due("nothing waits there", net.waiting(6, NONE), 0);
        Checks.due("no deficit there", net.deficit(6, 3), 0);
        Checks.due("all eight of flow 3 are lost", net.count(3, 5), 8);
        Checks.due("they were made", net.count(3, 3), 16);
        Checks.due("the timer is set though all are lost", net.timer(3), 46);
    }

    /** Lost once, not twice, when the net is full and there is no way. */
    private static void lostAtOnceAlsoWhereThereIsNoWay() {
        Net net = new Net();
        for (int f = 0; f < 5; f++) {
            net.link(f, f + 1, 1, 1, 40);
            net.shape(2 * f, 8, 8);
            net.flow(f, f + 1, 100, 1);
            net.tune(f, 8, 20, 0);
        }
        net.flow(0, 7, 100, 1);
        net.tune(5, 8, 30, 0);
        Checks.due("STARTs", net.run(6), 6);
        Checks.due("in the net at first", inNet(net), 40);
        Checks.due("lost without a way", net.count(5, 5), 8);
        Checks.due("LEAVEs", net.run(40), 40);
        Checks.due("TIMEOUTs", net.run(5), 5);
        Checks.due("now()", net.now(), 20);
        Checks.due("in the net", inNet(net), 64);
        Checks.due("lost of flow 3", net.count(3, 5), 8);
        Checks.due("lost of flow 2, none", net.count(2, 5), 0);
        Checks.due("lost of flow 4", net.count(4, 5), 8);
        Checks.due("made by flow 5", net.count(5, 3), 8);
        for (int n = 0; n < 40 && net.count(5, 6) == 0; n++) {
            net.step();
        }
        Checks.due("trace(0)", net.trace(0), Checks.event(30, Checks.TIMEOUT, 5, 0));
        Checks.due("made by flow 5", net.count(5, 3), 16);
        Checks.due("lost of flow 5", net.count(5, 5), 16);
        Checks.due("in the net", inNet(net), 64);
    }

    /** How many events come after nearlyFull() until a number of flow 0 is not 0 any more. */
    private static int eventsUntil(int what) {
        Net net = nearlyFull();
        int events = 0;
        while (net.count(0, what) == 0 && events < 200) {
            net.step();
            events++;
        }
        return events;
    }

    private static Net nearlyFullAndThen(int events) {
        Net net = nearlyFull();
        for (int left = events; left > 0; left -= 50) {
            net.run(Math.min(left, 50));
        }
        return net;
    }

    /** "A packet is in the net from its making until it has ARRIVED": its answer finds a place. */
    private static void arrivedDataAreInTheNetNoMore() {
        int events = eventsUntil(4);
        Net net = nearlyFullAndThen(events - 1);
        Checks.due("in the net before", inNet(net), 64);
        Checks.due("lost before", net.count(0, 5), 8);
        Checks.due("made before", net.count(0, 3), 24);
        Checks.next(net, 41, Checks.ARRIVE, 1, 0);
        Checks.due("its answer is made and not lost", net.onPort(1), 1 + Checks.ANSWER);
        Checks.due("made", net.count(0, 3), 25);
        Checks.due("lost", net.count(0, 5), 8);
        Checks.due("in the net", inNet(net), 64);
    }

    /** An answer that arrives makes place for one packet more, and for one alone. */
    private static void arrivedAnswersAreInTheNetNoMore() {
        int events = eventsUntil(0);
        Net net = nearlyFullAndThen(events - 1);
        int made = net.count(0, 3);
        int lost = net.count(0, 5);
        Checks.due("in the net before", inNet(net), 64);
        Checks.next(net, 82, Checks.ARRIVE, 0, 1 + Checks.ANSWER);
        Checks.due("NEXT", net.count(0, 1), 9);
        Checks.due("made", net.count(0, 3), made + 1);
        Checks.due("lost", net.count(0, 5), lost);
        Checks.due("in the net", inNet(net), 64);
    }

    /** ".. or is LOST": many that are lost for want of a way or of room take no place. */
    private static void lostPacketsAreInTheNetNoMore() {
        Net net = new Net();
        net.link(0, 1, 1, 16, 40);
        net.link(2, 3, 1, 1, 40);
        net.shape(0, 8, 1);
        net.flow(0, 7, 100, 1);
        net.flow(0, 1, 100, 8);
        net.flow(2, 3, 4, 1);
        net.tune(0, 8, 1, 0);
        net.tune(1, 8, 1, 0);
        net.tune(2, 4, 200, 20);
        Checks.due("run(40)", net.run(40), 40);
        Checks.due("now()", net.now(), 19);
        Checks.due("lost without a way", net.count(0, 5), 160);
        Checks.due("lost without room", net.count(1, 5), 158);
        Checks.next(net, 20, Checks.START, 2, 0);
        Checks.due("flow 2 sends", net.count(2, 3), 4);
        Checks.due("and loses none", net.count(2, 5), 0);
        Checks.due("on its port", net.onPort(2), 512);
        Checks.due("waiting there", net.waiting(2, 2), 3);
    }
}
