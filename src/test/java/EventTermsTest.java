import java.util.function.Consumer;

/** "Terms", its second half: how events are set and come, and what each does. A test for each sentence. */
public final class EventTermsTest {
    private static final int NONE = DeficitNet.NONE;

    public static void main(String[] args) {
        leastTickComesFirst();
        ofEqualTicksTheOneThatWasSetFirst();
        nowBeforeAndAfter();
        whatBegins();
        whatDoesNotBegin();
        startsInTheOrderOfTheFlows();
        clearEndsWhatIsBegun();
        fillsUpToWindowAndCount();
        fillSetsTheTimerOnce();
        fillGoesOnAsBaseMoves();
        lostWithoutAWay();
        lostWithoutRoom();
        onPortTakesNoRoom();
        answersAreLostWithoutRoom();
        waitsBehindThoseOfItsFlow();
        comesToTheEndOfTheList();
        comesAgainWithNoDeficit();
        sizeAgainstDeficit();
        servedGetsNoMore();
        goesToTheEndWithItsDeficit();
        longestSearch();
        listThatBecomesEmpty();
        leaveWithAndWithoutWaiting();
        arriveBeforeTheEnd();
        dataAgainstExpected();
        answerAgainstBase();
        answerOfSeveral();
        timeoutDoesNotComeAfterTheAnswer();
        patienceAgainstTheAnswer();
        timeoutSendsAgainFromBase();
        leastPatience();
        Checks.finish("EventTermsTest");
    }

    /** A link 0 to 1 and flow 0 over it, with a window and a patience. */
    private static Net simple(int slowness, int delay, int count, int size, int window, int patience) {
        Net net = new Net();
        net.link(0, 1, 1, slowness, delay);
        net.flow(0, 1, count, size);
        net.tune(0, window, patience, 0);
        return net;
    }

    /** Looks at flow f: its timer, BASE, NEXT, EXPECTED, made, arrived, lost, TIMEOUTs. */
    private static void flow(Net net, int f, int timer, int... counts) {
        String when = " at tick " + net.now();
        Checks.due("timer(" + f + ")" + when, net.timer(f), timer);
        for (int what = 0; what < counts.length; what++) {
            Checks.due("count(" + f + ", " + what + ")" + when, net.count(f, what), counts[what]);
        }
    }

    /** Looks at a port: what is on it, then waiting and deficit of each flow. */
    private static void port(Net net, int p, int on, int... waitingAndDeficit) {
        String when = " at tick " + net.now();
        int sum = 0;
        for (int f = 0; 2 * f < waitingAndDeficit.length; f++) {
            Checks.due("waiting(" + p + ", " + f + ")" + when, net.waiting(p, f), waitingAndDeficit[2 * f]);
            Checks.due("deficit(" + p + ", " + f + ")" + when, net.deficit(p, f), waitingAndDeficit[2 * f + 1]);
            sum += waitingAndDeficit[2 * f];
        }
        Checks.due("waiting(" + p + ", NONE)" + when, net.waiting(p, NONE), sum);
        Checks.due("onPort(" + p + ")" + when, net.onPort(p), on);
    }

    /** "the one with the least tick comes first": also if it was set last */
    private static void leastTickComesFirst() {
        Net net = new Net();
        net.link(0, 1, 1, 1, 0);
        net.flow(2, 3, 1, 1);
        net.flow(0, 1, 1, 1);
        net.tune(0, 1, 200, 3);
        net.tune(1, 1, 200, 0);
        Checks.next(net, 0, Checks.START, 1, 0);
        Checks.next(net, 1, Checks.LEAVE, 0, 0);
        Checks.next(net, 1, Checks.ARRIVE, 1, 0);
        Checks.next(net, 2, Checks.LEAVE, 1, 1 + Checks.ANSWER);
        Checks.next(net, 2, Checks.ARRIVE, 0, 1 + Checks.ANSWER);
        Checks.next(net, 3, Checks.START, 0, 0);
        Checks.next(net, 203, Checks.TIMEOUT, 0, 0);
    }

    /** "of equal ones the one that was set first": every kind against another one, both ways round if both can be */
    private static void ofEqualTicksTheOneThatWasSetFirst() {
        startBeforeWhatWasSetLater();
        arriveAgainstTimeout();
        leaveAgainstLeave();
        timeoutAgainstTimeout();
    }

    private static void startBeforeWhatWasSetLater() {
        Net net = new Net();
        net.link(0, 1, 1, 5, 0);
        net.flow(0, 1, 2, 1);
        net.flow(2, 3, 1, 1);
        net.flow(2, 3, 1, 1);
        net.tune(0, 2, 5, 0);
        net.tune(1, 1, 200, 5);
        net.tune(2, 1, 200, 10);
        Checks.next(net, 0, Checks.START, 0, 0);
        Checks.next(net, 5, Checks.START, 1, 0);
        Checks.next(net, 5, Checks.TIMEOUT, 0, 0);
        Checks.next(net, 5, Checks.LEAVE, 0, 0);
        Checks.next(net, 5, Checks.ARRIVE, 1, 0);
        Checks.next(net, 10, Checks.START, 2, 0);
        Checks.next(net, 10, Checks.TIMEOUT, 0, 0);
        // Set at tick 5 as LEAVE chose, before ARRIVE made the answer.
        Checks.next(net, 10, Checks.LEAVE, 0, 1);
        Checks.next(net, 10, Checks.LEAVE, 1, 1 + Checks.ANSWER);
        Checks.next(net, 10, Checks.ARRIVE, 1, 1);
        Checks.next(net, 10, Checks.ARRIVE, 0, 1 + Checks.ANSWER);
    }

    /** Both for tick 20; the TIMEOUT of flow 0 was set before, that of flow 1 after the ARRIVE. */
    private static void arriveAgainstTimeout() {
        Net net = new Net();
        net.link(0, 1, 1, 1, 10);
        net.flow(2, 3, 1, 1);
        net.flow(2, 3, 1, 1);
        net.flow(0, 1, 1, 1);
        net.tune(0, 1, 20, 0);
        net.tune(1, 1, 8, 12);
        net.tune(2, 1, 200, 9);
        Checks.next(net, 0, Checks.START, 0, 0);
        Checks.next(net, 9, Checks.START, 2, 0);
        Checks.next(net, 10, Checks.LEAVE, 0, 0);
        Checks.next(net, 12, Checks.START, 1, 0);
        Checks.next(net, 20, Checks.TIMEOUT, 0, 0);
        Checks.next(net, 20, Checks.ARRIVE, 1, 0);
        Checks.next(net, 20, Checks.TIMEOUT, 1, 0);
    }

    /** Three ports for tick 24: set in the order of the STARTs, which is not that of ports or of flows. */
    private static void leaveAgainstLeave() {
        Net net = new Net();
        net.link(0, 1, 1, 3, 0);
        net.link(2, 3, 1, 4, 0);
        net.link(4, 5, 1, 6, 0);
        net.flow(0, 1, 1, 2);
        net.flow(2, 3, 1, 1);
        net.flow(4, 5, 1, 4);
        net.tune(0, 1, 200, 18);
        net.tune(1, 1, 200, 20);
        net.tune(2, 1, 200, 0);
        Checks.next(net, 0, Checks.START, 2, 0);
        Checks.next(net, 18, Checks.START, 0, 0);
        Checks.next(net, 20, Checks.START, 1, 0);
        Checks.next(net, 24, Checks.LEAVE, 4, 0);
        Checks.next(net, 24, Checks.LEAVE, 0, 0);
        Checks.next(net, 24, Checks.LEAVE, 2, 0);
        Checks.next(net, 24, Checks.ARRIVE, 5, 0);
        Checks.next(net, 24, Checks.ARRIVE, 1, 0);
        Checks.next(net, 24, Checks.ARRIVE, 3, 0);
    }

    /** For tick 10 the TIMEOUT of flow 1 was set at tick 0, that of flow 0 again at tick 5. */
    private static void timeoutAgainstTimeout() {
        Net net = new Net();
        net.flow(0, 1, 1, 1);
        net.flow(0, 1, 1, 1);
        net.tune(0, 1, 5, 0);
        net.tune(1, 1, 10, 0);
        net.run(2);
        Checks.next(net, 5, Checks.TIMEOUT, 0, 0);
        Checks.next(net, 10, Checks.TIMEOUT, 1, 0);
        Checks.next(net, 10, Checks.TIMEOUT, 0, 0);
        Checks.next(net, 15, Checks.TIMEOUT, 0, 0);
        // Now that of flow 1 was set first at tick 10, that of flow 0 at tick 15.
        Checks.next(net, 20, Checks.TIMEOUT, 1, 0);
        Checks.next(net, 20, Checks.TIMEOUT, 0, 0);
    }

    /** "NOW is the tick of the latest event, 0 before." */
    private static void nowBeforeAndAfter() {
        Net net = simple(1, 0, 1, 1, 1, 200);
        net.tune(0, 1, 200, 1000);
        Checks.due("before it is begun", net.now(), 0);
        Checks.due("run(0)", net.run(0), 0);
        Checks.due("run(51)", net.run(51), NONE);
        Checks.due("before it is begun", net.now(), 0);
        Checks.next(net, 1000, Checks.START, 0, 0);
        Checks.due("run(50)", net.run(50), 4);
        Checks.due("after all", net.now(), 1002);
        Checks.noMore(net);
        Checks.due("run(50)", net.run(50), 0);
        Checks.due("after step() and run() without an event", net.now(), 1002);
        net.clear();
        Checks.due("after clear()", net.now(), 0);
        Checks.noMore(net);
        Checks.due("begun without flows", net.now(), 0);
    }

    /** "The first step(), or run() of one event or more, also if none is there, BEGINS" */
    private static void whatBegins() {
        begins("step()", Net::step);
        begins("run(1)", net -> net.run(1));
        begins("run(50)", net -> net.run(50));
    }

    private static void begins(String name, Consumer<Net> call) {
        for (int flows = 0; flows < 2; flows++) {
            Net net = new Net();
            net.link(0, 1, 7, 1, 0);
            for (int f = 0; f < flows; f++) {
                net.flow(0, 1, 1, 1);
            }
            call.accept(net);
            String when = " after " + name + " with " + flows + " flows";
            Checks.due("link" + when, net.link(0, 1, 1, 1, 0), NONE);
            Checks.due("shape" + when, net.shape(0, 8, 4), false);
            Checks.due("flow" + when, net.flow(0, 1, 1, 1), NONE);
            Checks.due("tune" + when, net.tune(0, 4, 100, 0), false);
            Checks.due("distance" + when, net.distance(0, 1), 7);
            Checks.due("port 2" + when, net.waiting(2, NONE), NONE);
            Checks.due("count" + when, net.count(flows, 0), NONE);
        }
    }

    /** "run(0) does not begin.", nor does a refused run(), nor a call that asks */
    private static void whatDoesNotBegin() {
        doesNotBegin("run(0)", net -> net.run(0));
        doesNotBegin("run(-1)", net -> net.run(-1));
        doesNotBegin("run(51)", net -> net.run(51));
        doesNotBegin("now()", Net::now);
        doesNotBegin("trace(0)", net -> net.trace(0));
        doesNotBegin("timer(0)", net -> net.timer(0));
        doesNotBegin("clear() of a begun one", net -> {
            net.step();
            net.clear();
            net.link(0, 1, 7, 1, 0);
            net.flow(0, 1, 1, 1);
        });
    }

    private static void doesNotBegin(String name, Consumer<Net> call) {
        Net net = new Net();
        net.link(0, 1, 7, 1, 0);
        net.flow(0, 1, 1, 1);
        call.accept(net);
        String when = " after " + name;
        Checks.due("link" + when, net.link(0, 1, 1, 1, 0), 1);
        Checks.due("shape" + when, net.shape(2, 8, 4), true);
        Checks.due("flow" + when, net.flow(0, 1, 1, 1), 1);
        Checks.due("tune" + when, net.tune(1, 4, 100, 0), true);
        Checks.next(net, 0, Checks.START, 0, 0);
    }

    /** "for each flow, in the order of their numbers, a START (kind 1) is set for the tick of its birth" */
    private static void startsInTheOrderOfTheFlows() {
        Net net = new Net();
        int[] births = {1000, 999, 1000, 0, 999, 0};
        for (int f = 0; f < 6; f++) {
            net.flow(0, 1, 1, 1);
            net.tune(f, 1, 200, 1000 - births[f]);
            net.tune(f, 1, 200, births[f]);
        }
        Checks.next(net, 0, Checks.START, 3, 0);
        Checks.next(net, 0, Checks.START, 5, 0);
        for (int n = 1; n <= 4; n++) {
            Checks.next(net, 200 * n, Checks.TIMEOUT, 3, 0);
            Checks.next(net, 200 * n, Checks.TIMEOUT, 5, 0);
        }
        Checks.next(net, 999, Checks.START, 1, 0);
        Checks.next(net, 999, Checks.START, 4, 0);
        Checks.next(net, 1000, Checks.START, 0, 0);
        Checks.next(net, 1000, Checks.START, 2, 0);
        Checks.next(net, 1000, Checks.TIMEOUT, 3, 0);
        Checks.next(net, 1000, Checks.TIMEOUT, 5, 0);
    }

    /** "until clear()" */
    private static void clearEndsWhatIsBegun() {
        Net net = simple(1, 40, 100, 1, 8, 50);
        Checks.due("run(30)", net.run(30), 30);
        net.clear();
        Checks.due("no flow, no event", net.step(), false);
        net.clear();
        Checks.due("link", net.link(0, 1, 1, 1, 0), 0);
        Checks.due("shape", net.shape(1, 8, 4), true);
        Checks.due("flow", net.flow(0, 1, 1, 1), 0);
        Checks.due("tune", net.tune(0, 4, 100, 7), true);
        Checks.due("the events of before do not come", net.run(50), 5);
        Checks.due("trace(4)", net.trace(4), Checks.event(7, Checks.START, 0, 0));
        Checks.due("trace(5)", net.trace(5), NONE);
    }

    /** "as long as NEXT is less than BASE + window and less than the count" */
    private static void fillsUpToWindowAndCount() {
        for (int window = 1; window <= 8; window++) {
            for (int count = 1; count <= 10; count++) {
                Net net = simple(1, 40, count, 1, window, 200);
                net.shape(0, 8, 8);
                Checks.next(net, 0, Checks.START, 0, 0);
                int due = Math.min(window, count);
                flow(net, 0, 200, 0, due, 0, due, 0, 0, 0);
                port(net, 0, 0, due - 1, 0);
            }
        }
    }

    /** "if the timer is not set, a TIMEOUT is set": by the first of three, so it keeps its place before the LEAVE. */
    private static void fillSetsTheTimerOnce() {
        Net net = simple(5, 0, 3, 1, 3, 5);
        Checks.next(net, 0, Checks.START, 0, 0);
        Checks.next(net, 5, Checks.TIMEOUT, 0, 0);
        Checks.next(net, 5, Checks.LEAVE, 0, 0);
    }

    /** NEXT goes on by as much as BASE does, and stops at the count. */
    private static void fillGoesOnAsBaseMoves() {
        Net net = simple(1, 0, 4, 1, 2, 100);
        int[] base = new int[30];
        int[] next = new int[30];
        int seen = 0;
        for (int n = 0; n < 29 && net.step(); n++) {
            if (net.count(0, 0) != (seen == 0 ? 0 : base[seen - 1])) {
                base[seen] = net.count(0, 0);
                next[seen] = net.count(0, 1);
                seen++;
            }
        }
        Checks.due("BASE moved", seen, 4);
        int[] due = {3, 4, 4, 4};
        for (int i = 0; i < 4; i++) {
            Checks.due("BASE", base[i], i + 1);
            Checks.due("NEXT with BASE " + base[i], next[i], due[i]);
        }
        flow(net, 0, NONE, 4, 4, 4, 8, 8, 0, 0);
    }

    /** "if there is no way from it to the packet's end .. the packet is lost" */
    private static void lostWithoutAWay() {
        Net net = new Net();
        net.link(0, 1, 1, 1, 0);
        net.link(2, 3, 1, 1, 0);
        net.flow(0, 3, 3, 1);
        net.tune(0, 8, 9, 0);
        Checks.next(net, 0, Checks.START, 0, 0);
        flow(net, 0, 9, 0, 3, 0, 3, 0, 3, 0);
        for (int p = 0; p < 4; p++) {
            port(net, p, NONE, 0, 0);
        }
        Checks.next(net, 9, Checks.TIMEOUT, 0, 0);
        flow(net, 0, 18, 0, 3, 0, 6, 0, 6, 1);
        Checks.next(net, 18, Checks.TIMEOUT, 0, 0);
    }

    /** "as many packets wait at the port that is the way as it has room": for every room, the last that fits and the next */
    private static void lostWithoutRoom() {
        for (int room = 1; room <= 8; room++) {
            for (int more = -1; more <= 1; more++) {
                // One is on the port; as many wait as were sent besides.
                int sent = 1 + room + more;
                Net net = new Net();
                net.link(0, 1, 1, 1, 40);
                net.shape(0, 8, room);
                net.flow(0, 1, Math.min(sent, 5), 1);
                net.tune(0, 5, 200, 0);
                if (sent > 5) {
                    net.flow(0, 1, sent - 5, 1);
                    net.tune(1, 5, 200, 0);
                }
                net.run(2);
                String when = " with room " + room + " and " + sent + " sent";
                int lost = net.count(0, 5) + Math.max(0, net.count(1, 5));
                Checks.due("lost" + when, lost, Math.max(0, more));
                if (sent > 5) {
                    Checks.due("waiting" + when, net.waiting(0, NONE), Math.min(room, sent - 1));
                }
            }
        }
    }

    /** With room 1 and none waiting, a packet is put though one is on the port. */
    private static void onPortTakesNoRoom() {
        Net net = simple(1, 40, 3, 1, 3, 200);
        net.shape(0, 8, 1);
        Checks.next(net, 0, Checks.START, 0, 0);
        port(net, 0, 0, 1, 0);
        flow(net, 0, 200, 0, 3, 0, 3, 0, 1, 0);
        Checks.next(net, 1, Checks.LEAVE, 0, 0);
        port(net, 0, 1, 0, 0);
        Checks.next(net, 2, Checks.LEAVE, 0, 1);
        port(net, 0, NONE, 0, 0);
    }

    /** The answer is made and lost; the data have arrived all the same. */
    private static void answersAreLostWithoutRoom() {
        Net net = new Net();
        net.link(0, 1, 1, 2, 0);
        net.shape(1, 8, 1);
        net.flow(0, 1, 1, 1);
        net.flow(1, 0, 2, 8);
        net.tune(0, 1, 20, 0);
        Checks.next(net, 0, Checks.START, 0, 0);
        Checks.next(net, 0, Checks.START, 1, 0);
        port(net, 1, 256, 0, 0, 1, 0);
        Checks.next(net, 2, Checks.LEAVE, 0, 0);
        Checks.next(net, 2, Checks.ARRIVE, 1, 0);
        flow(net, 0, 20, 0, 1, 1, 2, 1, 1, 0);
        port(net, 1, 256, 0, 0, 1, 0);
        Checks.next(net, 16, Checks.LEAVE, 1, 0);
        port(net, 1, 257, 0, 0, 0, 0);
        Checks.next(net, 16, Checks.ARRIVE, 0, 0);
        Checks.next(net, 18, Checks.LEAVE, 0, 1 + Checks.ANSWER);
        Checks.next(net, 18, Checks.ARRIVE, 1, 1 + Checks.ANSWER);
        Checks.next(net, 20, Checks.TIMEOUT, 0, 0);
        Checks.next(net, 22, Checks.LEAVE, 0, 0);
        // Now there is room, and the data that were there before are answered with EXPECTED.
        Checks.next(net, 22, Checks.ARRIVE, 1, 0);
        flow(net, 0, 40, 0, 1, 1, 4, 2, 1, 1);
        port(net, 1, 257, 1, 0, 0, 0);
    }

    /** "it waits there, behind those of its flow": also if another flow has come between */
    private static void waitsBehindThoseOfItsFlow() {
        Net net = new Net();
        net.link(0, 1, 1, 16, 40);
        net.shape(0, 1, 8);
        net.flow(0, 1, 3, 1);
        net.flow(0, 1, 2, 1);
        net.flow(0, 1, 1, 8);
        net.tune(0, 3, 100, 1);
        net.tune(1, 2, 200, 60);
        net.tune(2, 1, 200, 0);
        net.run(3);
        port(net, 0, 512, 3, 0, 2, 0, 0, 0);
        Checks.next(net, 101, Checks.TIMEOUT, 0, 0);
        // Flow 0 has 0, 1, 2, 0, 1, 2 waiting, flow 1 has 0, 1; each gets 1 at its turn.
        port(net, 0, 512, 6, 0, 2, 0, 0, 0);
        int[] due = {0, 256, 1, 257, 2, 0, 1, 2};
        for (int i = 0; i < due.length; i++) {
            long leave = Checks.event(128 + 16 * i, Checks.LEAVE, 0, i == 0 ? 0 : due[i - 1] % 256);
            for (int n = 0; n < 10 && net.trace(0) != leave; n++) {
                net.step();
            }
            Checks.due("LEAVE", net.trace(0), leave);
            Checks.due("on the port after tick " + net.now(), net.onPort(0), due[i]);
        }
    }

    /** "the flow comes to the end of the port's LIST, with deficit 0 and not SERVED" */
    private static void comesToTheEndOfTheList() {
        Net net = new Net();
        net.link(0, 1, 1, 1, 40);
        net.shape(0, 2, 8);
        int[] births = {2, 1, 3, 0};
        for (int f = 0; f < 4; f++) {
            net.flow(0, 1, f == 3 ? 1 : 2, f == 3 ? 8 : 1);
            net.tune(f, 2, 200, births[f]);
        }
        Checks.due("run(4)", net.run(4), 4);
        // They came in the order 1, 0, 2; each gets 2, enough for both of its packets.
        port(net, 0, 3 * 256, 2, 0, 2, 0, 2, 0, 0, 0);
        Checks.next(net, 8, Checks.LEAVE, 0, 0);
        port(net, 0, 256, 2, 0, 1, 1, 2, 0, 0, 0);
        Checks.next(net, 9, Checks.LEAVE, 0, 0);
        port(net, 0, 257, 2, 0, 0, 0, 2, 0, 0, 0);
        Checks.next(net, 10, Checks.LEAVE, 0, 1);
        port(net, 0, 0, 1, 1, 0, 0, 2, 0, 0, 0);
        Checks.next(net, 11, Checks.LEAVE, 0, 0);
        port(net, 0, 1, 0, 0, 0, 0, 2, 0, 0, 0);
        Checks.next(net, 12, Checks.LEAVE, 0, 1);
        port(net, 0, 512, 0, 0, 0, 0, 1, 1, 0, 0);
        Checks.next(net, 13, Checks.LEAVE, 0, 0);
        port(net, 0, 513, 0, 0, 0, 0, 0, 0, 0, 0);
        Checks.next(net, 14, Checks.LEAVE, 0, 1);
        port(net, 0, NONE, 0, 0, 0, 0, 0, 0, 0, 0);
    }

    /** What a flow had left when it left the list is not there when it comes again. */
    private static void comesAgainWithNoDeficit() {
        Net net = simple(1, 40, 3, 1, 3, 20);
        net.shape(0, 16, 8);
        Checks.next(net, 0, Checks.START, 0, 0);
        for (int n = 0; n < 2; n++) {
            int tick = 20 * n;
            port(net, 0, 0, 2, 0);
            Checks.next(net, tick + 1, Checks.LEAVE, 0, 0);
            port(net, 0, 1, 1, 15);
            Checks.next(net, tick + 2, Checks.LEAVE, 0, 1);
            port(net, 0, 2, 0, 0);
            Checks.next(net, tick + 3, Checks.LEAVE, 0, 2);
            port(net, 0, NONE, 0, 0);
            Checks.next(net, tick + 20, Checks.TIMEOUT, 0, 0);
        }
    }

    /** "has a size that is not more than its deficit": one more than the quantum, the same, one less */
    private static void sizeAgainstDeficit() {
        for (int quantum = 1; quantum <= 16; quantum++) {
            for (int size = 1; size <= 8; size++) {
                Net net = simple(1, 40, 4, size, 4, 200);
                net.shape(0, quantum, 8);
                Checks.next(net, 0, Checks.START, 0, 0);
                port(net, 0, 0, 3, 0);
                // Alone in the list: it gets the quantum as often as it needs to, and never when it has enough.
                int deficit = 0;
                for (int number = 1; number <= 3; number++) {
                    while (deficit < size) {
                        deficit += quantum;
                    }
                    deficit -= size;
                    Checks.next(net, number * size, Checks.LEAVE, 0, number - 1);
                    port(net, 0, number, 3 - number, number == 3 ? 0 : deficit);
                }
                Checks.next(net, 4 * size, Checks.LEAVE, 0, 3);
                port(net, 0, NONE, 0, 0);
            }
        }
    }

    /** "If it is not served, its DEFICIT grows": served, it goes on with what it has, and another waits for it. */
    private static void servedGetsNoMore() {
        Net net = new Net();
        net.link(0, 1, 1, 1, 40);
        net.shape(0, 5, 8);
        net.flow(0, 1, 4, 2);
        net.flow(0, 1, 2, 5);
        net.flow(0, 1, 1, 1);
        net.run(3);
        port(net, 0, 0, 3, 0, 2, 0, 1, 0);
        Checks.next(net, 2, Checks.LEAVE, 0, 0);
        port(net, 0, 1, 2, 3, 2, 0, 1, 0);
        Checks.next(net, 4, Checks.LEAVE, 0, 1);
        port(net, 0, 2, 1, 1, 2, 0, 1, 0);
        // 1 is not enough for 2: it goes to the end with it, served no more.
        Checks.next(net, 6, Checks.LEAVE, 0, 2);
        port(net, 0, 256, 1, 1, 1, 0, 1, 0);
        // The deficit of flow 1 is 0, it is served, and so it goes to the end too.
        Checks.next(net, 11, Checks.LEAVE, 0, 0);
        port(net, 0, 512, 1, 1, 1, 0, 0, 0);
        Checks.next(net, 12, Checks.LEAVE, 0, 0);
        port(net, 0, 3, 0, 0, 1, 0, 0, 0);
        Checks.next(net, 14, Checks.LEAVE, 0, 3);
        port(net, 0, 257, 0, 0, 0, 0, 0, 0);
    }

    /** "the flow goes to the end of the list and is served no more (its deficit stays)" */
    private static void goesToTheEndWithItsDeficit() {
        Net net = new Net();
        net.link(0, 1, 1, 1, 40);
        net.shape(0, 3, 8);
        net.flow(0, 1, 1, 1);
        net.flow(0, 1, 1, 7);
        net.flow(0, 1, 3, 3);
        net.run(3);
        port(net, 0, 0, 0, 0, 1, 0, 3, 0);
        Checks.next(net, 1, Checks.LEAVE, 0, 0);
        port(net, 0, 512, 0, 0, 1, 3, 2, 0);
        // Flow 2 has 0 and is served: to the end; flow 1 gets to 6: to the end; flow 2 gets 3.
        Checks.next(net, 4, Checks.LEAVE, 0, 0);
        port(net, 0, 513, 0, 0, 1, 6, 1, 0);
        // Flow 2 to the end; flow 1 gets to 9, gives 7, and leaves the list.
        Checks.next(net, 7, Checks.LEAVE, 0, 1);
        port(net, 0, 256, 0, 0, 0, 0, 1, 0);
        Checks.next(net, 14, Checks.LEAVE, 0, 0);
        port(net, 0, 514, 0, 0, 0, 0, 0, 0);
    }

    /** Six flows of size 8 at a quantum of 1, the first served with nothing left, the others new: 44 looks until one goes. */
    private static void longestSearch() {
        Net net = new Net();
        net.link(0, 1, 1, 1, 40);
        net.shape(0, 1, 8);
        for (int f = 0; f < 6; f++) {
            net.flow(0, 1, 3, 8);
            net.tune(f, f == 0 ? 3 : 1, 200, f == 0 ? 0 : 10);
        }
        Checks.next(net, 0, Checks.START, 0, 0);
        Checks.next(net, 8, Checks.LEAVE, 0, 0);
        port(net, 0, 1, 1, 0, 0, 0, 0, 0, 0, 0, 0, 0, 0, 0);
        Checks.due("run(5)", net.run(5), 5);
        port(net, 0, 1, 1, 0, 1, 0, 1, 0, 1, 0, 1, 0, 1, 0);
        // Flow 0 goes to the end with nothing; then 1 .. 7 for each; then flow 1 has 8.
        Checks.next(net, 16, Checks.LEAVE, 0, 1);
        port(net, 0, 256, 1, 7, 0, 0, 1, 7, 1, 7, 1, 7, 1, 7);
        for (int f = 2; f < 5; f++) {
            Checks.next(net, 8 * (f + 1), Checks.LEAVE, 0, 0);
            Checks.due("on the port", net.onPort(0), 256 * f);
        }
        Checks.next(net, 48, Checks.ARRIVE, 1, 0);
        Checks.next(net, 48, Checks.LEAVE, 0, 0);
        port(net, 0, 1280, 1, 7, 0, 0, 0, 0, 0, 0, 0, 0, 0, 0);
        Checks.next(net, 49, Checks.LEAVE, 1, 1 + Checks.ANSWER);
        Checks.next(net, 56, Checks.ARRIVE, 1, 1);
        Checks.next(net, 56, Checks.LEAVE, 0, 0);
        port(net, 0, 2, 0, 0, 0, 0, 0, 0, 0, 0, 0, 0, 0, 0);
    }

    /** "if the flow has no more packets waiting there it leaves the list (its deficit is 0 then)" */
    private static void listThatBecomesEmpty() {
        Net net = simple(2, 0, 2, 3, 1, 100);
        net.shape(0, 16, 1);
        Checks.next(net, 0, Checks.START, 0, 0);
        port(net, 0, 0, 0, 0);
        Checks.next(net, 6, Checks.LEAVE, 0, 0);
        port(net, 0, NONE, 0, 0);
        Checks.next(net, 6, Checks.ARRIVE, 1, 0);
        port(net, 1, 1 + Checks.ANSWER, 0, 0);
        Checks.next(net, 8, Checks.LEAVE, 1, 1 + Checks.ANSWER);
        port(net, 1, NONE, 0, 0);
        Checks.next(net, 8, Checks.ARRIVE, 0, 1 + Checks.ANSWER);
        port(net, 0, 1, 0, 0);
        Checks.next(net, 14, Checks.LEAVE, 0, 1);
        port(net, 0, NONE, 0, 0);
    }

    /** "and then, if packets wait at the port, it chooses" */
    private static void leaveWithAndWithoutWaiting() {
        Net net = simple(3, 7, 2, 2, 2, 200);
        Checks.next(net, 0, Checks.START, 0, 0);
        port(net, 0, 0, 1, 0);
        Checks.next(net, 6, Checks.LEAVE, 0, 0);
        port(net, 0, 1, 0, 0);
        Checks.next(net, 12, Checks.LEAVE, 0, 1);
        port(net, 0, NONE, 0, 0);
        Checks.next(net, 13, Checks.ARRIVE, 1, 0);
        Checks.next(net, 16, Checks.LEAVE, 1, 1 + Checks.ANSWER);
        Checks.next(net, 19, Checks.ARRIVE, 1, 1);
        arriveIsSetBeforeThePortChooses();
    }

    /** The delay is as long as the next packet needs: both for tick 12, the ARRIVE was set first. */
    private static void arriveIsSetBeforeThePortChooses() {
        Net net = simple(3, 6, 2, 2, 2, 200);
        Checks.next(net, 0, Checks.START, 0, 0);
        Checks.next(net, 6, Checks.LEAVE, 0, 0);
        Checks.next(net, 12, Checks.ARRIVE, 1, 0);
        Checks.next(net, 12, Checks.LEAVE, 0, 1);
    }

    /** "if that is not its end, it is put there": it neither arrives nor is answered there */
    private static void arriveBeforeTheEnd() {
        Net net = new Net();
        net.link(0, 1, 1, 1, 0);
        net.link(1, 2, 1, 1, 0);
        net.flow(0, 2, 1, 1);
        Checks.next(net, 0, Checks.START, 0, 0);
        Checks.next(net, 1, Checks.LEAVE, 0, 0);
        Checks.next(net, 1, Checks.ARRIVE, 1, 0);
        flow(net, 0, 100, 0, 1, 0, 1, 0, 0, 0);
        port(net, 2, 0, 0, 0);
        Checks.next(net, 2, Checks.LEAVE, 2, 0);
        Checks.next(net, 2, Checks.ARRIVE, 2, 0);
        flow(net, 0, 100, 0, 1, 1, 2, 1, 0, 0);
        Checks.next(net, 3, Checks.LEAVE, 3, 1 + Checks.ANSWER);
        Checks.next(net, 3, Checks.ARRIVE, 1, 1 + Checks.ANSWER);
        flow(net, 0, 100, 0, 1, 1, 2, 1, 0, 0);
        Checks.next(net, 4, Checks.LEAVE, 1, 1 + Checks.ANSWER);
        Checks.next(net, 4, Checks.ARRIVE, 0, 1 + Checks.ANSWER);
        flow(net, 0, NONE, 1, 1, 1, 2, 2, 0, 0);
        Checks.noMore(net);
    }

    /**
     * "Data with the number EXPECTED make EXPECTED grow by 1; after any data an answer with the number EXPECTED is made":
     * 0 is EXPECTED, 1 is lost, 2 is above it; 0 once more is below it.
     */
    private static void dataAgainstExpected() {
        Net net = new Net();
        net.link(0, 1, 1, 1, 0);
        net.link(1, 2, 1, 2, 0);
        net.shape(2, 8, 1);
        net.flow(1, 2, 1, 1);
        net.flow(0, 2, 4, 1);
        net.tune(0, 1, 200, 1);
        net.tune(1, 4, 30, 0);
        Checks.next(net, 0, Checks.START, 1, 0);
        Checks.next(net, 1, Checks.START, 0, 0);
        Checks.next(net, 1, Checks.LEAVE, 0, 0);
        Checks.next(net, 1, Checks.ARRIVE, 1, 0);
        Checks.due("number 0 waits at node 1", net.waiting(2, 1), 1);
        Checks.next(net, 2, Checks.LEAVE, 0, 1);
        Checks.next(net, 2, Checks.ARRIVE, 1, 1);
        Checks.due("number 1 is lost there", net.count(1, 5), 1);
        Checks.next(net, 3, Checks.LEAVE, 2, 0);
        Checks.due("number 0 is on the port", net.onPort(2), 256);
        Checks.next(net, 3, Checks.LEAVE, 0, 2);
        Checks.next(net, 3, Checks.ARRIVE, 2, 0);
        Checks.next(net, 3, Checks.ARRIVE, 1, 2);
        Checks.due("number 2 waits at node 1", net.waiting(2, 1), 1);
        Checks.next(net, 4, Checks.LEAVE, 0, 3);
        Checks.next(net, 4, Checks.ARRIVE, 1, 3);
        Checks.due("number 3 is lost there", net.count(1, 5), 2);
        Checks.next(net, 5, Checks.LEAVE, 2, 0);
        Checks.next(net, 5, Checks.LEAVE, 3, 1 + Checks.ANSWER);
        Checks.next(net, 5, Checks.ARRIVE, 2, 0);
        Checks.due("EXPECTED after 0", net.count(1, 2), 1);
        Checks.due("answer after 0", net.onPort(3), 256 + 1 + Checks.ANSWER);
        Checks.next(net, 5, Checks.ARRIVE, 1, 1 + Checks.ANSWER);
        Checks.next(net, 7, Checks.LEAVE, 2, 2);
        Checks.next(net, 7, Checks.LEAVE, 3, 1 + Checks.ANSWER);
        Checks.next(net, 7, Checks.ARRIVE, 2, 2);
        Checks.due("EXPECTED after 2, which is above it", net.count(1, 2), 1);
        Checks.due("answer after 2", net.onPort(3), 256 + 1 + Checks.ANSWER);
        Checks.due("arrived: 0 and 2", net.count(1, 4), 2);
        Checks.due("made: four data, two answers", net.count(1, 3), 6);
        numberBelowExpected();
    }

    private static void numberBelowExpected() {
        Net net = simple(1, 5, 1, 1, 1, 4);
        net.run(2);
        Checks.next(net, 4, Checks.TIMEOUT, 0, 0);
        Checks.next(net, 5, Checks.LEAVE, 0, 0);
        Checks.next(net, 6, Checks.ARRIVE, 1, 0);
        flow(net, 0, 8, 0, 1, 1, 3, 1, 0, 1);
        Checks.due("answer after 0", net.onPort(1), 1 + Checks.ANSWER);
        Checks.next(net, 7, Checks.LEAVE, 1, 1 + Checks.ANSWER);
        Checks.next(net, 8, Checks.TIMEOUT, 0, 0);
        Checks.next(net, 9, Checks.LEAVE, 0, 0);
        Checks.next(net, 10, Checks.ARRIVE, 1, 0);
        flow(net, 0, 12, 0, 1, 1, 5, 2, 0, 2);
        Checks.due("answer after 0 once more", net.onPort(1), 1 + Checks.ANSWER);
    }

    /** "An answer with a number above BASE": 1 and 2 are, and 2 once more is not */
    private static void answerAgainstBase() {
        Net net = simple(1, 10, 2, 1, 1, 12);
        Checks.next(net, 0, Checks.START, 0, 0);
        Checks.next(net, 1, Checks.LEAVE, 0, 0);
        Checks.next(net, 11, Checks.ARRIVE, 1, 0);
        Checks.next(net, 12, Checks.TIMEOUT, 0, 0);
        Checks.next(net, 12, Checks.LEAVE, 1, 1 + Checks.ANSWER);
        Checks.next(net, 13, Checks.LEAVE, 0, 0);
        flow(net, 0, 24, 0, 1, 1, 3, 1, 0, 1);
        Checks.next(net, 22, Checks.ARRIVE, 0, 1 + Checks.ANSWER);
        flow(net, 0, 34, 1, 2, 1, 4, 2, 0, 1);
        Checks.next(net, 23, Checks.ARRIVE, 1, 0);
        flow(net, 0, 34, 1, 2, 1, 5, 3, 0, 1);
        Checks.next(net, 23, Checks.LEAVE, 0, 1);
        Checks.next(net, 24, Checks.LEAVE, 1, 1 + Checks.ANSWER);
        Checks.next(net, 33, Checks.ARRIVE, 1, 1);
        Checks.next(net, 34, Checks.TIMEOUT, 0, 1);
        flow(net, 0, 46, 1, 2, 2, 7, 4, 0, 2);
        // The same number as BASE: it arrives, and does nothing else.
        Checks.next(net, 34, Checks.ARRIVE, 0, 1 + Checks.ANSWER);
        flow(net, 0, 46, 1, 2, 2, 7, 5, 0, 2);
        Checks.next(net, 34, Checks.LEAVE, 1, 2 + Checks.ANSWER);
        Checks.next(net, 35, Checks.LEAVE, 0, 1);
        Checks.next(net, 44, Checks.ARRIVE, 0, 2 + Checks.ANSWER);
        flow(net, 0, NONE, 2, 2, 2, 7, 6, 0, 2);
        Checks.next(net, 45, Checks.ARRIVE, 1, 1);
        Checks.next(net, 46, Checks.LEAVE, 1, 2 + Checks.ANSWER);
        Checks.next(net, 56, Checks.ARRIVE, 0, 2 + Checks.ANSWER);
        flow(net, 0, NONE, 2, 2, 2, 8, 8, 0, 2);
        Checks.noMore(net);
    }

    /** BASE becomes the answer's number, also if that is more than one above: the answers between are lost. */
    private static void answerOfSeveral() {
        Net net = new Net();
        net.link(0, 1, 1, 1, 0);
        net.shape(1, 16, 1);
        net.flow(0, 1, 4, 1);
        net.flow(1, 0, 1, 6);
        net.tune(0, 3, 50, 0);
        net.tune(1, 1, 200, 0);
        Checks.next(net, 0, Checks.START, 0, 0);
        Checks.next(net, 0, Checks.START, 1, 0);
        Checks.due("data of flow 1 are on the port back", net.onPort(1), 256);
        net.run(6);
        Checks.due("three data have arrived", net.now(), 3);
        flow(net, 0, 50, 0, 3, 3, 6, 3, 2, 0);
        Checks.due("the answer that waits is the first", net.waiting(1, 0), 1);
        Checks.next(net, 6, Checks.LEAVE, 1, 0);
        Checks.next(net, 6, Checks.ARRIVE, 0, 0);
        Checks.next(net, 7, Checks.LEAVE, 1, 1 + Checks.ANSWER);
        Checks.next(net, 7, Checks.LEAVE, 0, 1 + Checks.ANSWER);
        Checks.next(net, 7, Checks.ARRIVE, 0, 1 + Checks.ANSWER);
        // BASE is less than NEXT: the TIMEOUT is set anew, and number 3 goes.
        flow(net, 0, 57, 1, 4, 3, 7, 4, 2, 0);
        Checks.next(net, 7, Checks.ARRIVE, 1, 1 + Checks.ANSWER);
        Checks.next(net, 8, Checks.LEAVE, 0, 3);
        Checks.next(net, 8, Checks.ARRIVE, 1, 3);
        Checks.next(net, 9, Checks.LEAVE, 1, 4 + Checks.ANSWER);
        Checks.next(net, 9, Checks.ARRIVE, 0, 4 + Checks.ANSWER);
        flow(net, 0, NONE, 4, 4, 4, 8, 6, 2, 0);
        Checks.noMore(net);
    }

    /** "the timer is not set any more (its TIMEOUT does not come)" */
    private static void timeoutDoesNotComeAfterTheAnswer() {
        Net net = simple(1, 0, 2, 1, 2, 3);
        net.flow(2, 3, 1, 1);
        net.tune(1, 1, 1, 0);
        for (int n = 0; n < 16 && net.now() < 6; n++) {
            net.step();
            long kindAndSubject = net.trace(0) / 256 % 4096;
            Checks.holds("no TIMEOUT of flow 0", kindAndSubject != 256 * Checks.TIMEOUT);
        }
        flow(net, 0, NONE, 2, 2, 2, 4, 4, 0, 0);
        Checks.holds("TIMEOUTs of flow 1 came at its ticks", net.count(1, 6) >= 4);
    }

    /** The answer comes after 2 ticks: a patience of 2 is not enough, as the TIMEOUT was set first; 3 is. */
    private static void patienceAgainstTheAnswer() {
        Net net = simple(1, 0, 1, 1, 1, 2);
        net.run(3);
        Checks.next(net, 2, Checks.TIMEOUT, 0, 0);
        Checks.next(net, 2, Checks.LEAVE, 1, 1 + Checks.ANSWER);
        Checks.next(net, 2, Checks.ARRIVE, 0, 1 + Checks.ANSWER);
        flow(net, 0, NONE, 1, 1, 1, 3, 2, 0, 1);
        Net patient = simple(1, 0, 1, 1, 1, 3);
        Checks.due("run(50)", patient.run(50), 5);
        flow(patient, 0, NONE, 1, 1, 1, 2, 2, 0, 0);
    }

    /** "NEXT becomes BASE; the flow fills": the answered are not sent again, the others in their order */
    private static void timeoutSendsAgainFromBase() {
        Net net = new Net();
        net.link(0, 1, 1, 1, 0);
        net.shape(0, 8, 1);
        net.flow(0, 1, 5, 1);
        net.tune(0, 3, 10, 0);
        Checks.next(net, 0, Checks.START, 0, 0);
        flow(net, 0, 10, 0, 3, 0, 3, 0, 1, 0);
        net.run(8);
        Checks.next(net, 3, Checks.ARRIVE, 0, 2 + Checks.ANSWER);
        flow(net, 0, 13, 2, 5, 2, 7, 4, 1, 0);
        Checks.next(net, 3, Checks.ARRIVE, 1, 3);
        Checks.next(net, 4, Checks.LEAVE, 0, 4);
        Checks.next(net, 4, Checks.LEAVE, 1, 2 + Checks.ANSWER);
        Checks.next(net, 4, Checks.ARRIVE, 1, 4);
        Checks.next(net, 4, Checks.ARRIVE, 0, 2 + Checks.ANSWER);
        Checks.next(net, 5, Checks.LEAVE, 1, 2 + Checks.ANSWER);
        Checks.next(net, 5, Checks.ARRIVE, 0, 2 + Checks.ANSWER);
        flow(net, 0, 13, 2, 5, 2, 9, 8, 1, 0);
        Checks.next(net, 13, Checks.TIMEOUT, 0, 2);
        flow(net, 0, 23, 2, 5, 2, 12, 8, 2, 1);
        Checks.due("number 2 is on the port", net.onPort(0), 2);
        Checks.next(net, 14, Checks.LEAVE, 0, 2);
        Checks.due("number 3 is on the port", net.onPort(0), 3);
    }

    /** The least patience, with no way: a TIMEOUT at every tick from the birth on. */
    private static void leastPatience() {
        Net net = new Net();
        net.flow(0, 1, 1, 1);
        net.tune(0, 1, 1, 0);
        Checks.next(net, 0, Checks.START, 0, 0);
        for (int tick = 1; tick <= 20; tick++) {
            Checks.next(net, tick, Checks.TIMEOUT, 0, 0);
            flow(net, 0, tick + 1, 0, 1, 0, tick + 1, 0, tick + 1, tick);
        }
    }
}
