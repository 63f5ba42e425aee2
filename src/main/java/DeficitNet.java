import java.util.Arrays;

/** A network that is worked out event by event. All rows are made in the constructor and used again. */
public final class DeficitNet {
    public static final int NONE = -1;

    private static final int NODES = 8;
    private static final int MAX_LINKS = 12;
    private static final int MAX_PORTS = 2 * MAX_LINKS;
    private static final int MAX_FLOWS = 6;
    private static final int MAX_PACKETS = 64;

    private static final int MAX_COST = 100;
    private static final int MAX_SLOWNESS = 16;
    private static final int MAX_DELAY = 40;
    private static final int MAX_QUANTUM = 16;
    private static final int MAX_ROOM = 8;
    private static final int MAX_COUNT = 100;
    private static final int MAX_SIZE = 8;
    private static final int MAX_WINDOW = 8;
    private static final int MAX_PATIENCE = 200;
    private static final int MAX_BIRTH = 1000;
    private static final int MAX_RUN = 50;
    private static final int TRACE_LENGTH = 16;

    private static final int FIRST_QUANTUM = 8;
    private static final int FIRST_ROOM = 4;
    private static final int FIRST_WINDOW = 4;
    private static final int FIRST_PATIENCE = 100;
    private static final int FIRST_BIRTH = 0;
    private static final int ANSWER_SIZE = 1;

    private static final int NO_KIND = 0;
    private static final int START = 1;
    private static final int LEAVE = 2;
    private static final int ARRIVE = 3;
    private static final int TIMEOUT = 4;

    private static final long TICK_UNIT = 1048576L;
    private static final int KIND_UNIT = 65536;
    private static final int SUBJECT_UNIT = 256;
    private static final int ANSWER_MARK = 128;

    private static final int SLOTS = MAX_FLOWS + MAX_PACKETS;

    // A deficit grows by 1 or more at every look but a served flow's first,
    // so no flow is passed over more than MAX_SIZE times before one of its packets can go.
    private static final int MAX_LOOKS = MAX_FLOWS * (MAX_SIZE + 1);

    private final int[][] distances;
    private final Port[] ports;
    private final Flow[] flows;
    private final Packet[] packets;
    private final Agenda agenda;
    private final long[] latest;
    private int linkCount;
    private int flowCount;
    private int nowTick;
    private boolean begun;

    public DeficitNet() {
        distances = new int[NODES][NODES];
        ports = new Port[MAX_PORTS];
        for (int p = 0; p < MAX_PORTS; p++) {
            ports[p] = new Port();
        }
        flows = new Flow[MAX_FLOWS];
        for (int f = 0; f < MAX_FLOWS; f++) {
            flows[f] = new Flow();
        }
        packets = new Packet[MAX_PACKETS];
        for (int p = 0; p < MAX_PACKETS; p++) {
            packets[p] = new Packet();
        }
        agenda = new Agenda();
        latest = new long[TRACE_LENGTH];
        clear();
    }

    public int link(int a, int b, int cost, int slowness, int delay) {
        if (begun || linkCount >= MAX_LINKS || !isNode(a) || !isNode(b) || a == b) {
            return NONE;
        }
        if (!isWithin(cost, 1, MAX_COST) || !isWithin(slowness, 1, MAX_SLOWNESS) || !isWithin(delay, 0, MAX_DELAY)) {
            return NONE;
        }
        int number = linkCount;
        ports[2 * number].lay(a, b, cost, slowness, delay);
        ports[2 * number + 1].lay(b, a, cost, slowness, delay);
        linkCount++;
        shortenOver(a, b, cost);
        shortenOver(b, a, cost);
        return number;
    }

    public boolean shape(int port, int quantum, int room) {
        if (begun || !isPort(port) || !isWithin(quantum, 1, MAX_QUANTUM) || !isWithin(room, 1, MAX_ROOM)) {
            return false;
        }
        ports[port].quantum = quantum;
        ports[port].room = room;
        return true;
    }

    public int flow(int source, int sink, int count, int size) {
        if (begun || flowCount >= MAX_FLOWS || !isNode(source) || !isNode(sink) || source == sink) {
            return NONE;
        }
        if (!isWithin(count, 1, MAX_COUNT) || !isWithin(size, 1, MAX_SIZE)) {
            return NONE;
        }
        int number = flowCount;
        flows[number].found(source, sink, count, size);
        flowCount++;
        return number;
    }

    public boolean tune(int flow, int window, int patience, int birth) {
        if (begun || !isFlow(flow) || !isWithin(window, 1, MAX_WINDOW)) {
            return false;
        }
        if (!isWithin(patience, 1, MAX_PATIENCE) || !isWithin(birth, 0, MAX_BIRTH)) {
            return false;
        }
        flows[flow].window = window;
        flows[flow].patience = patience;
        flows[flow].birth = birth;
        return true;
    }

    // Ports and flows are not cleared here: they get all their first values when a link or a flow takes them.
    public void clear() {
        begun = false;
        nowTick = 0;
        linkCount = 0;
        flowCount = 0;
        for (int v = 0; v < NODES; v++) {
            Arrays.fill(distances[v], NONE);
            distances[v][v] = 0;
        }
        for (int p = 0; p < MAX_PACKETS; p++) {
            packets[p].inNet = false;
        }
        agenda.unsetAll();
        Arrays.fill(latest, NONE);
    }

    public boolean step() {
        begin();
        return happen();
    }

    public int run(int n) {
        if (!isWithin(n, 0, MAX_RUN)) {
            return NONE;
        }
        if (n > 0) {
            begin();
        }
        int made = 0;
        while (made < n && happen()) {
            made++;
        }
        return made;
    }

    public int now() {
        return nowTick;
    }

    public long trace(int k) {
        return isWithin(k, 0, TRACE_LENGTH - 1) ? latest[k] : NONE;
    }

    public int distance(int v, int t) {
        return isNode(v) && isNode(t) ? distances[v][t] : NONE;
    }

    public int way(int v, int t) {
        if (!isNode(v) || !isNode(t) || v == t || distances[v][t] == NONE) {
            return NONE;
        }
        for (int p = 0; p < 2 * linkCount; p++) {
            Port port = ports[p];
            if (port.from == v && port.cost + distances[port.to][t] == distances[v][t]) {
                return p;
            }
        }
        return NONE;
    }

    public int waiting(int port, int flow) {
        if (!isPort(port)) {
            return NONE;
        }
        if (flow == NONE) {
            return ports[port].queued;
        }
        return isFlow(flow) ? queuedOf(ports[port], flow) : NONE;
    }

    public int deficit(int port, int flow) {
        return isPort(port) && isFlow(flow) ? ports[port].deficits[flow] : NONE;
    }

    public int onPort(int port) {
        if (!isPort(port) || ports[port].on == NONE) {
            return NONE;
        }
        Packet packet = packets[ports[port].on];
        return SUBJECT_UNIT * packet.flow + packet.label();
    }

    public int timer(int flow) {
        return isFlow(flow) && hasTimer(flow) ? agenda.ticks[flow] : NONE;
    }

    public int count(int flow, int what) {
        if (!isFlow(flow)) {
            return NONE;
        }
        switch (what) {
            case 0: return flows[flow].base;
            case 1: return flows[flow].next;
            case 2: return flows[flow].expected;
            case 3: return flows[flow].made;
            case 4: return flows[flow].arrived;
            case 5: return flows[flow].lost;
            case 6: return flows[flow].timeouts;
            default: return NONE;
        }
    }

    private static boolean isWithin(int x, int least, int most) {
        return x >= least && x <= most;
    }

    private static boolean isNode(int v) {
        return v >= 0 && v < NODES;
    }

    private boolean isPort(int port) {
        return isWithin(port, 0, 2 * linkCount - 1);
    }

    private boolean isFlow(int flow) {
        return isWithin(flow, 0, flowCount - 1);
    }

    // A shortest path takes a new link at most once, so one pass over all pairs for each direction is enough.
    private void shortenOver(int a, int b, int cost) {
        for (int v = 0; v < NODES; v++) {
            for (int t = 0; t < NODES; t++) {
                if (distances[v][a] == NONE || distances[b][t] == NONE) {
                    continue;
                }
                int sum = distances[v][a] + cost + distances[b][t];
                if (distances[v][t] == NONE || sum < distances[v][t]) {
                    distances[v][t] = sum;
                }
            }
        }
    }

    private void begin() {
        if (begun) {
            return;
        }
        begun = true;
        for (int f = 0; f < flowCount; f++) {
            agenda.set(f, START, flows[f].birth);
        }
    }

    private boolean happen() {
        int slot = agenda.firstSlot();
        if (slot == NONE) {
            return false;
        }
        nowTick = agenda.ticks[slot];
        int kind = agenda.kinds[slot];
        agenda.unset(slot);
        switch (kind) {
            case START: start(slot); break;
            case LEAVE: leave(slot - MAX_FLOWS); break;
            case ARRIVE: arrive(slot - MAX_FLOWS); break;
            default: timeOut(slot); break;
        }
        return true;
    }

    private void start(int f) {
        remember(START, f, flows[f].next);
        fill(f);
    }

    private void timeOut(int f) {
        Flow flow = flows[f];
        remember(TIMEOUT, f, flow.base);
        flow.timeouts++;
        flow.next = flow.base;
        fill(f);
    }

    private void leave(int p) {
        Packet packet = packets[p];
        Port port = ports[packet.port];
        remember(LEAVE, packet.port, packet.label());
        port.on = NONE;
        agenda.set(MAX_FLOWS + p, ARRIVE, nowTick + port.delay);
        if (port.queued > 0) {
            choose(port);
        }
    }

    private void arrive(int p) {
        Packet packet = packets[p];
        int node = ports[packet.port].to;
        remember(ARRIVE, node, packet.label());
        if (node != packet.end) {
            put(p, node);
            return;
        }
        packet.inNet = false;
        flows[packet.flow].arrived++;
        if (!packet.isAnswer) {
            takeData(packet.flow, packet.number);
        } else if (packet.number > flows[packet.flow].base) {
            moveBase(packet.flow, packet.number);
            fill(packet.flow);
        }
    }

    private void takeData(int f, int number) {
        Flow flow = flows[f];
        if (number == flow.expected) {
            flow.expected++;
        }
        put(make(f, flow.expected, true), flow.sink);
    }

    private void moveBase(int f, int number) {
        Flow flow = flows[f];
        flow.base = number;
        flow.next = Math.max(flow.next, number);
        agenda.unset(f);
        if (flow.base < flow.next) {
            setTimer(f);
        }
    }

    private void fill(int f) {
        Flow flow = flows[f];
        int limit = Math.min(flow.base + flow.window, flow.count);
        for (int number = flow.next; number < limit; number++) {
            if (!hasTimer(f)) {
                setTimer(f);
            }
            put(make(f, number, false), flow.source);
            flow.next = number + 1;
        }
    }

    private boolean hasTimer(int f) {
        return agenda.kinds[f] == TIMEOUT;
    }

    private void setTimer(int f) {
        agenda.set(f, TIMEOUT, nowTick + flows[f].patience);
    }

    /** The packet's place, or NONE if the net is full and it is lost at once. */
    private int make(int f, int number, boolean isAnswer) {
        flows[f].made++;
        for (int p = 0; p < MAX_PACKETS; p++) {
            if (!packets[p].inNet) {
                packets[p].enter(f, number, isAnswer, flows[f]);
                return p;
            }
        }
        flows[f].lost++;
        return NONE;
    }

    private void put(int p, int node) {
        if (p == NONE) {
            return;
        }
        Packet packet = packets[p];
        int w = way(node, packet.end);
        if (w == NONE || ports[w].queued >= ports[w].room) {
            packet.inNet = false;
            flows[packet.flow].lost++;
            return;
        }
        Port port = ports[w];
        packet.port = w;
        if (queuedOf(port, packet.flow) == 0) {
            port.append(packet.flow);
        }
        port.queue[port.queued] = p;
        port.queued++;
        if (port.on == NONE) {
            choose(port);
        }
    }

    private void choose(Port port) {
        for (int look = 0; look < MAX_LOOKS && port.queued > 0; look++) {
            int f = port.list[0];
            port.serveFirst();
            int place = firstPlaceOf(port, f);
            Packet packet = packets[port.queue[place]];
            if (packet.size <= port.deficits[f]) {
                port.deficits[f] -= packet.size;
                port.on = port.takeFrom(place);
                agenda.set(MAX_FLOWS + port.on, LEAVE, nowTick + packet.size * port.slowness);
                if (queuedOf(port, f) == 0) {
                    port.dropFirst();
                    port.deficits[f] = 0;
                }
                return;
            }
            port.dropFirst();
            port.append(f);
        }
    }

    private int queuedOf(Port port, int f) {
        int sum = 0;
        for (int i = 0; i < port.queued; i++) {
            if (packets[port.queue[i]].flow == f) {
                sum++;
            }
        }
        return sum;
    }

    /** Only asked for a flow that is listed at the port, and so has a packet in its queue. */
    private int firstPlaceOf(Port port, int f) {
        int place = 0;
        while (place < port.queued - 1 && packets[port.queue[place]].flow != f) {
            place++;
        }
        return place;
    }

    private void remember(int kind, int subject, int number) {
        System.arraycopy(latest, 0, latest, 1, TRACE_LENGTH - 1);
        latest[0] = nowTick * TICK_UNIT + kind * KIND_UNIT + subject * SUBJECT_UNIT + number;
    }

    private static final class Port {
        int from;
        int to;
        int cost;
        int slowness;
        int delay;
        int quantum;
        int room;
        int on;
        int queued;
        int listed;
        // Only the first flow of the list can be served: one that goes to the end is served no more.
        boolean firstIsServed;
        // The waiting packets of all flows, oldest first; a flow's own are met in their order.
        final int[] queue = new int[MAX_ROOM];
        final int[] list = new int[MAX_FLOWS];
        // 0 for every flow that is not listed, so one that is appended begins with 0.
        final int[] deficits = new int[MAX_FLOWS];

        void lay(int newFrom, int newTo, int newCost, int newSlowness, int newDelay) {
            from = newFrom;
            to = newTo;
            cost = newCost;
            slowness = newSlowness;
            delay = newDelay;
            quantum = FIRST_QUANTUM;
            room = FIRST_ROOM;
            on = NONE;
            queued = 0;
            listed = 0;
            firstIsServed = false;
            Arrays.fill(deficits, 0);
        }

        void append(int f) {
            if (listed < MAX_FLOWS) {
                list[listed] = f;
                listed++;
            }
        }

        void dropFirst() {
            if (listed > 0) {
                listed--;
                System.arraycopy(list, 1, list, 0, listed);
                firstIsServed = false;
            }
        }

        void serveFirst() {
            if (!firstIsServed) {
                deficits[list[0]] += quantum;
                firstIsServed = true;
            }
        }

        int takeFrom(int place) {
            int p = queue[place];
            queued--;
            System.arraycopy(queue, place + 1, queue, place, queued - place);
            return p;
        }
    }

    private static final class Flow {
        int source;
        int sink;
        int count;
        int size;
        int window;
        int patience;
        int birth;
        int base;
        int next;
        int expected;
        int made;
        int arrived;
        int lost;
        int timeouts;

        void found(int newSource, int newSink, int newCount, int newSize) {
            source = newSource;
            sink = newSink;
            count = newCount;
            size = newSize;
            window = FIRST_WINDOW;
            patience = FIRST_PATIENCE;
            birth = FIRST_BIRTH;
            base = 0;
            next = 0;
            expected = 0;
            made = 0;
            arrived = 0;
            lost = 0;
            timeouts = 0;
        }
    }

    private static final class Packet {
        boolean inNet;
        boolean isAnswer;
        int flow;
        int number;
        int size;
        int end;
        // Where it waits, is on, or was last.
        int port;

        void enter(int newFlow, int newNumber, boolean asAnswer, Flow its) {
            inNet = true;
            isAnswer = asAnswer;
            flow = newFlow;
            number = newNumber;
            size = asAnswer ? ANSWER_SIZE : its.size;
            end = asAnswer ? its.source : its.sink;
        }

        int label() {
            return isAnswer ? number + ANSWER_MARK : number;
        }
    }

    /**
     * The events that are set. A flow has its START or its TIMEOUT, a packet its LEAVE or its ARRIVE, never both:
     * so slot f is flow f's and slot MAX_FLOWS + p is packet p's.
     */
    private static final class Agenda {
        final int[] kinds = new int[SLOTS];
        final int[] ticks = new int[SLOTS];
        final int[] turns = new int[SLOTS];
        int turn;

        void unsetAll() {
            Arrays.fill(kinds, NO_KIND);
            turn = 0;
        }

        void unset(int slot) {
            kinds[slot] = NO_KIND;
        }

        void set(int slot, int kind, int tick) {
            kinds[slot] = kind;
            ticks[slot] = tick;
            turns[slot] = turn;
            turn++;
        }

        int firstSlot() {
            int first = NONE;
            for (int slot = 0; slot < SLOTS; slot++) {
                if (kinds[slot] != NO_KIND && (first == NONE || isBefore(slot, first))) {
                    first = slot;
                }
            }
            return first;
        }

        boolean isBefore(int slot, int other) {
            return ticks[slot] < ticks[other] || ticks[slot] == ticks[other] && turns[slot] < turns[other];
        }
    }
}
