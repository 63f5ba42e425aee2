import java.util.ArrayList;
import java.util.List;
import java.util.function.Consumer;
import java.util.function.ToLongFunction;

/** "A refused call changes nothing.": every refused call, in every kind of state, before and after it is begun. */
public final class RefusedTest {
    private static final int NONE = DeficitNet.NONE;
    private static final int NO = 0;

    private record State(String name, boolean begun, int links, int flows, Consumer<Net> recipe) {
        Net make() {
            Net net = new Net();
            recipe.accept(net);
            return net;
        }
    }

    private record Refused(String name, ToLongFunction<Net> call, long answer) {
    }

    public static void main(String[] args) {
        int tried = 0;
        for (State state : states()) {
            List<Refused> calls = wrongCalls();
            calls.add(shape(2 * state.links, 8, 4));
            calls.add(tune(state.flows, 4, 100, 0));
            if (state.begun) {
                calls.addAll(callsThatAreRefusedWhenBegun());
            }
            if (state.links == 12) {
                calls.add(link(0, 1, 1, 1, 0));
                calls.add(link(0, 7, 1, 1, 0));
            }
            if (state.flows == 6) {
                calls.add(flow(0, 1, 1, 1));
                calls.add(flow(0, 7, 100, 8));
            }
            for (Refused refused : calls) {
                changesNothing(state, refused);
                tried++;
            }
        }
        System.out.println(tried + " refused calls");
        askingChangesNothing();
        Checks.finish("RefusedTest");
    }

    private static List<State> states() {
        return List.of(
                new State("new", false, 0, 0, net -> { }),
                new State("built", false, 3, 3, Nets::small),
                new State("built, after run(0)", false, 3, 3, Nets.then(Nets::small, 0)),
                new State("full", false, 12, 6, Nets::full),
                new State("cleared", false, 0, 0, net -> {
                    Nets.then(Nets::full, 50).accept(net);
                    net.clear();
                }),
                new State("begun without flows", true, 0, 0, Net::step),
                new State("begun without flows by run(1)", true, 0, 0, Nets.then(net -> { }, 1)),
                new State("after one event", true, 3, 3, Nets.then(Nets::small, 1)),
                new State("in the middle", true, 3, 3, Nets.then(Nets::small, 40)),
                new State("full, in the middle", true, 12, 6, Nets.then(Nets::full, 100)),
                new State("with 64 in the net", true, 6, 6, Nets.then(Nets::crowded, 250)),
                new State("at the end", true, 1, 1, Nets.then(Nets::brief, 13)));
    }

    private static List<Refused> wrongCalls() {
        List<Refused> calls = new ArrayList<>();
        wrongLinks(calls);
        wrongShapes(calls);
        wrongFlows(calls);
        wrongTunes(calls);
        for (int n : outside(0, 50)) {
            calls.add(new Refused("run(" + n + ")", net -> net.run(n), NONE));
        }
        return calls;
    }

    private static int[] outside(int least, int most) {
        return new int[] {least - 1, most + 1, Integer.MIN_VALUE, Integer.MAX_VALUE};
    }

    private static void wrongLinks(List<Refused> calls) {
        for (int node : outside(0, 7)) {
            calls.add(link(node, 1, 1, 1, 0));
            calls.add(link(1, node, 1, 1, 0));
            calls.add(link(node, node, 1, 1, 0));
        }
        for (int node = 0; node < 8; node++) {
            calls.add(link(node, node, 1, 1, 0));
        }
        for (int cost : outside(1, 100)) {
            calls.add(link(0, 1, cost, 1, 0));
        }
        for (int slowness : outside(1, 16)) {
            calls.add(link(0, 1, 1, slowness, 0));
        }
        for (int delay : outside(0, 40)) {
            calls.add(link(0, 1, 1, 1, delay));
        }
    }

    private static void wrongShapes(List<Refused> calls) {
        for (int port : outside(0, 23)) {
            calls.add(shape(port, 16, 8));
        }
        for (int port = 0; port < 4; port++) {
            for (int quantum : outside(1, 16)) {
                calls.add(shape(port, quantum, 1));
            }
            for (int room : outside(1, 8)) {
                calls.add(shape(port, 1, room));
            }
        }
    }

    private static void wrongFlows(List<Refused> calls) {
        for (int node : outside(0, 7)) {
            calls.add(flow(node, 1, 1, 1));
            calls.add(flow(1, node, 1, 1));
            calls.add(flow(node, node, 1, 1));
        }
        for (int node = 0; node < 8; node++) {
            calls.add(flow(node, node, 1, 1));
        }
        for (int count : outside(1, 100)) {
            calls.add(flow(0, 1, count, 1));
        }
        for (int size : outside(1, 8)) {
            calls.add(flow(0, 1, 1, size));
        }
    }

    private static void wrongTunes(List<Refused> calls) {
        for (int flow : outside(0, 5)) {
            calls.add(tune(flow, 1, 1, 0));
        }
        for (int flow = 0; flow < 3; flow++) {
            for (int window : outside(1, 8)) {
                calls.add(tune(flow, window, 7, 9));
            }
            for (int patience : outside(1, 200)) {
                calls.add(tune(flow, 1, patience, 9));
            }
            for (int birth : outside(0, 1000)) {
                calls.add(tune(flow, 1, 7, birth));
            }
        }
    }

    private static List<Refused> callsThatAreRefusedWhenBegun() {
        List<Refused> calls = new ArrayList<>();
        calls.add(link(0, 7, 1, 1, 0));
        calls.add(link(2, 0, 1, 16, 40));
        calls.add(flow(0, 7, 1, 1));
        calls.add(flow(7, 0, 100, 8));
        for (int port = 0; port < 4; port++) {
            calls.add(shape(port, 1, 1));
            calls.add(shape(port, 16, 8));
        }
        for (int flow = 0; flow < 3; flow++) {
            calls.add(tune(flow, 1, 1, 0));
            calls.add(tune(flow, 8, 200, 1000));
        }
        return calls;
    }

    private static Refused link(int a, int b, int cost, int slowness, int delay) {
        String name = "link(" + a + ", " + b + ", " + cost + ", " + slowness + ", " + delay + ")";
        return new Refused(name, net -> net.link(a, b, cost, slowness, delay), NONE);
    }

    private static Refused shape(int port, int quantum, int room) {
        String name = "shape(" + port + ", " + quantum + ", " + room + ")";
        return new Refused(name, net -> net.shape(port, quantum, room) ? 1 : NO, NO);
    }

    private static Refused flow(int source, int sink, int count, int size) {
        String name = "flow(" + source + ", " + sink + ", " + count + ", " + size + ")";
        return new Refused(name, net -> net.flow(source, sink, count, size), NONE);
    }

    private static Refused tune(int flow, int window, int patience, int birth) {
        String name = "tune(" + flow + ", " + window + ", " + patience + ", " + birth + ")";
        return new Refused(name, net -> net.tune(flow, window, patience, birth) ? 1 : NO, NO);
    }

    private static void changesNothing(State state, Refused refused) {
        String what = refused.name + " when " + state.name;
        for (int part = 0; part < Look.PARTS; part++) {
            Net net = state.make();
            List<String> before = Look.at(net, part);
            Checks.due(what, refused.call.applyAsLong(net), refused.answer);
            Checks.same("after " + what, Look.at(net, part), before);
            goesOnAlike(state, refused, part);
        }
    }

    /** What can't be asked for (a quantum, a room, a window) shows in what comes later. */
    private static void goesOnAlike(State state, Refused refused, int part) {
        String what = "later, after " + refused.name + " when " + state.name;
        Net net = state.make();
        Net twin = state.make();
        refused.call.applyAsLong(net);
        Checks.due(what + " link", net.link(4, 5, 2, 2, 2), twin.link(4, 5, 2, 2, 2));
        Checks.due(what + " flow", net.flow(0, 1, 9, 2), twin.flow(0, 1, 9, 2));
        Checks.due(what + " run(4)", net.run(4), twin.run(4));
        Checks.same(what, Look.at(net, part), Look.at(twin, part));
        Checks.due(what + " run(50)", net.run(50), twin.run(50));
        Checks.due(what + " run(50)", net.run(50), twin.run(50));
        Checks.same(what, Look.at(net, part), Look.at(twin, part));
    }

    /** Neither do the calls that only ask, whatever they are asked for. */
    private static void askingChangesNothing() {
        for (State state : states()) {
            for (int part = 0; part < Look.PARTS; part++) {
                Net net = state.make();
                askFarAway(net);
                Net twin = state.make();
                String what = "after asking for what is not there, when " + state.name;
                Checks.same(what, Look.at(net, part), Look.at(twin, part));
                Checks.due(what + " run(50)", net.run(50), twin.run(50));
                Checks.same(what, Look.at(net, part), Look.at(twin, part));
            }
        }
    }

    private static void askFarAway(Net net) {
        int[] far = {-2, 100, Integer.MIN_VALUE, Integer.MAX_VALUE};
        for (int x : far) {
            Checks.due("trace(" + x + ")", net.trace(x), NONE);
            Checks.due("distance(" + x + ", 0)", net.distance(x, 0), NONE);
            Checks.due("distance(0, " + x + ")", net.distance(0, x), NONE);
            Checks.due("way(" + x + ", 0)", net.way(x, 0), NONE);
            Checks.due("way(0, " + x + ")", net.way(0, x), NONE);
            Checks.due("waiting(" + x + ", NONE)", net.waiting(x, NONE), NONE);
            Checks.due("waiting(" + x + ", 0)", net.waiting(x, 0), NONE);
            Checks.due("waiting(0, " + x + ")", net.waiting(0, x), NONE);
            Checks.due("deficit(" + x + ", 0)", net.deficit(x, 0), NONE);
            Checks.due("deficit(0, " + x + ")", net.deficit(0, x), NONE);
            Checks.due("onPort(" + x + ")", net.onPort(x), NONE);
            Checks.due("timer(" + x + ")", net.timer(x), NONE);
            Checks.due("count(" + x + ", 0)", net.count(x, 0), NONE);
            Checks.due("count(0, " + x + ")", net.count(0, x), NONE);
        }
    }
}
