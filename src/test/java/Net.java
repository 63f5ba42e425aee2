/** A DeficitNet whose calls are counted: a test that needs an answer after the 512th call asks for what is free. */
final class Net {
    static final int NONE = DeficitNet.NONE;
    static final int MOST_CALLS = 512;

    private final DeficitNet net = new DeficitNet();
    private int calls = 0;

    private DeficitNet called() {
        calls++;
        if (calls == MOST_CALLS + 1) {
            Checks.holds("an object is called at most 512 times", false);
            new Throwable("call 513").printStackTrace(System.out);
        }
        return net;
    }

    int calls() {
        return calls;
    }

    int link(int a, int b, int cost, int slowness, int delay) {
        return called().link(a, b, cost, slowness, delay);
    }

    boolean shape(int port, int quantum, int room) {
        return called().shape(port, quantum, room);
    }

    int flow(int source, int sink, int count, int size) {
        return called().flow(source, sink, count, size);
    }

    boolean tune(int flow, int window, int patience, int birth) {
        return called().tune(flow, window, patience, birth);
    }

    void clear() {
        called().clear();
    }

    boolean step() {
        return called().step();
    }

    int run(int n) {
        return called().run(n);
    }

    int now() {
        return called().now();
    }

    long trace(int k) {
        return called().trace(k);
    }

    int distance(int v, int t) {
        return called().distance(v, t);
    }

    int way(int v, int t) {
        return called().way(v, t);
    }

    int waiting(int port, int flow) {
        return called().waiting(port, flow);
    }

    int deficit(int port, int flow) {
        return called().deficit(port, flow);
    }

    int onPort(int port) {
        return called().onPort(port);
    }

    int timer(int flow) {
        return called().timer(flow);
    }

    int count(int flow, int what) {
        return called().count(flow, what);
    }
}
