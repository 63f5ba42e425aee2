import java.util.ArrayDeque;
import java.util.ArrayList;
import java.util.Deque;
import java.util.HashMap;
import java.util.List;
import java.util.Map;
import java.util.PriorityQueue;

/** The document once more, said with the Java library and without regard for what it costs. */
final class Model {
    private static final int NONE = -1;

    private record Event(int tick, int order, int kind, int flow, Packet packet) {
    }

    private static final class Packet {
        final Flow flow;
        final int number;
        final boolean answer;
        Port port;

        Packet(Flow flow, int number, boolean answer) {
            this.flow = flow;
            this.number = number;
            this.answer = answer;
        }

        int size() {
            return answer ? 1 : flow.size;
        }

        int end() {
            return answer ? flow.source : flow.sink;
        }

        int label() {
            return number + (answer ? 128 : 0);
        }
    }

    private static final class Flow {
        int number;
        int source;
        int sink;
        int count;
        int size;
        int window = 4;
        int patience = 100;
        int birth = 0;
        int base;
        int next;
        int expected;
        int made;
        int arrived;
        int lost;
        int timeouts;
        Event timer;
    }

    private static final class Port {
        int number;
        int from;
        int to;
        int cost;
        int slowness;
        int delay;
        int quantum = 8;
        int room = 4;
        Packet on;
        final Deque<Flow> list = new ArrayDeque<>();
        final Map<Flow, Deque<Packet>> waiting = new HashMap<>();
        final Map<Flow, Integer> deficits = new HashMap<>();
        final Map<Flow, Boolean> served = new HashMap<>();

        int waitingOf(Flow flow) {
            return waiting.containsKey(flow) ? waiting.get(flow).size() : 0;
        }

        int waitingOfAll() {
            return waiting.values().stream().mapToInt(Deque::size).sum();
        }
    }

    // What the random runs came to, so that the test can see that they reach the document's corners.
    static int lostAtOnce = 0;
    static int lostForRoom = 0;
    static int lostWithoutWay = 0;
    static int passedOver = 0;
    static int answersNotAbove = 0;
    static int timeoutsTaken = 0;
    static int ends = 0;

    private final List<Port> ports = new ArrayList<>();
    private final List<Flow> flows = new ArrayList<>();
    private final List<Long> traces = new ArrayList<>();
    private final PriorityQueue<Event> events = new PriorityQueue<>(
            (a, b) -> a.tick != b.tick ? Integer.compare(a.tick, b.tick) : Integer.compare(a.order, b.order));
    private int orders;
    private int inNet;
    private int now;
    private boolean begun;

    int link(int a, int b, int cost, int slowness, int delay) {
        boolean fine = !begun && ports.size() < 24 && node(a) && node(b) && a != b && cost >= 1 && cost <= 100
                && slowness >= 1 && slowness <= 16 && delay >= 0 && delay <= 40;
        if (!fine) {
            return NONE;
        }
        addPort(a, b, cost, slowness, delay);
        addPort(b, a, cost, slowness, delay);
        return ports.size() / 2 - 1;
    }

    private void addPort(int from, int to, int cost, int slowness, int delay) {
        Port port = new Port();
        port.number = ports.size();
        port.from = from;
        port.to = to;
        port.cost = cost;
        port.slowness = slowness;
        port.delay = delay;
        ports.add(port);
    }

    boolean shape(int port, int quantum, int room) {
        boolean fine = !begun && port >= 0 && port < ports.size() && quantum >= 1 && quantum <= 16 && room >= 1 && room <= 8;
        if (fine) {
            ports.get(port).quantum = quantum;
            ports.get(port).room = room;
        }
        return fine;
    }

    int flow(int source, int sink, int count, int size) {
        boolean fine = !begun && flows.size() < 6 && node(source) && node(sink) && source != sink
                && count >= 1 && count <= 100 && size >= 1 && size <= 8;
        if (!fine) {
            return NONE;
        }
        Flow flow = new Flow();
        flow.number = flows.size();
        flow.source = source;
        flow.sink = sink;
        flow.count = count;
        flow.size = size;
        flows.add(flow);
        return flow.number;
    }

    boolean tune(int flow, int window, int patience, int birth) {
        boolean fine = !begun && flow >= 0 && flow < flows.size() && window >= 1 && window <= 8
                && patience >= 1 && patience <= 200 && birth >= 0 && birth <= 1000;
        if (fine) {
            flows.get(flow).window = window;
            flows.get(flow).patience = patience;
            flows.get(flow).birth = birth;
        }
        return fine;
    }

    void clear() {
        ports.clear();
        flows.clear();
        traces.clear();
        events.clear();
        orders = 0;
        inNet = 0;
        now = 0;
        begun = false;
    }

    boolean step() {
        return run(1) == 1;
    }

    int run(int n) {
        if (n < 0 || n > 50) {
            return NONE;
        }
        if (n > 0 && !begun) {
            begun = true;
            flows.forEach(flow -> set(flow.birth, 1, flow.number, null));
        }
        int done = 0;
        while (done < n && !events.isEmpty()) {
            make(events.poll());
            done++;
        }
        ends += done < n ? 1 : 0;
        return done;
    }

    int now() {
        return now;
    }

    long trace(int k) {
        return k < 0 || k > 15 || k >= traces.size() ? NONE : traces.get(traces.size() - 1 - k);
    }

    int distance(int v, int t) {
        if (!node(v) || !node(t)) {
            return NONE;
        }
        int far = 1000000;
        int[] best = new int[8];
        java.util.Arrays.fill(best, far);
        best[t] = 0;
        for (int round = 0; round < 8; round++) {
            for (Port port : ports) {
                best[port.from] = Math.min(best[port.from], port.cost + best[port.to]);
            }
        }
        return best[v] >= far ? NONE : best[v];
    }

    int way(int v, int t) {
        int whole = distance(v, t);
        if (whole == NONE || v == t) {
            return NONE;
        }
        return ports.stream().filter(port -> port.from == v && port.cost + distance(port.to, t) == whole)
                .mapToInt(port -> port.number).min().orElse(NONE);
    }

    int waiting(int port, int flow) {
        if (port < 0 || port >= ports.size() || flow < NONE || flow >= flows.size()) {
            return NONE;
        }
        return flow == NONE ? ports.get(port).waitingOfAll() : ports.get(port).waitingOf(flows.get(flow));
    }

    int deficit(int port, int flow) {
        if (port < 0 || port >= ports.size() || flow < 0 || flow >= flows.size()) {
            return NONE;
        }
        return ports.get(port).deficits.getOrDefault(flows.get(flow), 0);
    }

    int onPort(int port) {
        if (port < 0 || port >= ports.size() || ports.get(port).on == null) {
            return NONE;
        }
        Packet packet = ports.get(port).on;
        return 256 * packet.flow.number + packet.label();
    }

    int timer(int flow) {
        return flow < 0 || flow >= flows.size() || flows.get(flow).timer == null ? NONE : flows.get(flow).timer.tick;
    }

    int count(int flow, int what) {
        if (flow < 0 || flow >= flows.size() || what < 0 || what > 6) {
            return NONE;
        }
        Flow f = flows.get(flow);
        return new int[] {f.base, f.next, f.expected, f.made, f.arrived, f.lost, f.timeouts}[what];
    }

    private static boolean node(int v) {
        return v >= 0 && v <= 7;
    }

    private Event set(int tick, int kind, int flow, Packet packet) {
        Event event = new Event(tick, orders++, kind, flow, packet);
        events.add(event);
        return event;
    }

    private void make(Event event) {
        now = event.tick;
        Flow flow = flows.get(event.flow);
        if (event.kind == 1) {
            note(1, flow.number, flow.next);
            fill(flow);
        } else if (event.kind == 2) {
            leave(event.packet);
        } else if (event.kind == 3) {
            arrive(event.packet);
        } else {
            note(4, flow.number, flow.base);
            timeoutsTaken++;
            flow.timeouts++;
            flow.timer = null;
            flow.next = flow.base;
            fill(flow);
        }
    }

    private void note(int kind, int subject, int number) {
        traces.add(now * 1048576L + kind * 65536L + subject * 256L + number);
    }

    private void fill(Flow flow) {
        while (flow.next < flow.base + flow.window && flow.next < flow.count) {
            if (flow.timer == null) {
                flow.timer = set(now + flow.patience, 4, flow.number, null);
            }
            send(new Packet(flow, flow.next, false), flow.source);
            flow.next++;
        }
    }

    private void send(Packet packet, int node) {
        packet.flow.made++;
        if (inNet == 64) {
            lostAtOnce++;
            packet.flow.lost++;
            return;
        }
        inNet++;
        put(packet, node);
    }

    private void put(Packet packet, int node) {
        int way = way(node, packet.end());
        boolean full = way != NONE && ports.get(way).waitingOfAll() == ports.get(way).room;
        if (way == NONE || full) {
            lostForRoom += full ? 1 : 0;
            lostWithoutWay += full ? 0 : 1;
            packet.flow.lost++;
            inNet--;
            return;
        }
        Port port = ports.get(way);
        packet.port = port;
        if (port.waitingOf(packet.flow) == 0) {
            port.waiting.put(packet.flow, new ArrayDeque<>());
            port.list.addLast(packet.flow);
            port.deficits.put(packet.flow, 0);
            port.served.put(packet.flow, false);
        }
        port.waiting.get(packet.flow).addLast(packet);
        if (port.on == null) {
            choose(port);
        }
    }

    private void choose(Port port) {
        Flow first = port.list.getFirst();
        if (!port.served.get(first)) {
            port.deficits.merge(first, port.quantum, Integer::sum);
            port.served.put(first, true);
        }
        Packet packet = port.waiting.get(first).getFirst();
        if (packet.size() > port.deficits.get(first)) {
            passedOver++;
            port.list.addLast(port.list.removeFirst());
            port.served.put(first, false);
            choose(port);
            return;
        }
        port.deficits.merge(first, -packet.size(), Integer::sum);
        port.on = port.waiting.get(first).removeFirst();
        set(now + packet.size() * port.slowness, 2, packet.flow.number, packet);
        if (port.waiting.get(first).isEmpty()) {
            port.list.removeFirst();
            port.deficits.remove(first);
        }
    }

    private void leave(Packet packet) {
        Port port = packet.port;
        note(2, port.number, packet.label());
        port.on = null;
        set(now + port.delay, 3, packet.flow.number, packet);
        if (port.waitingOfAll() > 0) {
            choose(port);
        }
    }

    private void arrive(Packet packet) {
        int node = packet.port.to;
        Flow flow = packet.flow;
        note(3, node, packet.label());
        if (node != packet.end()) {
            put(packet, node);
            return;
        }
        inNet--;
        flow.arrived++;
        if (!packet.answer) {
            flow.expected += packet.number == flow.expected ? 1 : 0;
            send(new Packet(flow, flow.expected, true), flow.sink);
        } else if (packet.number > flow.base) {
            acknowledge(flow, packet.number);
        } else {
            answersNotAbove++;
        }
    }

    private void acknowledge(Flow flow, int number) {
        flow.base = number;
        flow.next = Math.max(flow.next, number);
        if (flow.timer != null) {
            events.remove(flow.timer);
            flow.timer = null;
        }
        if (flow.base < flow.next) {
            flow.timer = set(now + flow.patience, 4, flow.number, null);
        }
        fill(flow);
    }
}
