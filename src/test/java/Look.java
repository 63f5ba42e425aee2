import java.util.ArrayList;
import java.util.List;

/** What a net answers to the calls that only ask, in parts small enough to be looked at twice on one object. */
final class Look {
    static final int PARTS = 4;

    private static final int NODES = 8;
    private static final int PORTS = 24;
    private static final int FLOWS = 6;

    private Look() {
    }

    /** One line for each call, the first that is not allowed at each end of a range too. */
    static List<String> at(Net net, int part) {
        List<String> lines = new ArrayList<>();
        switch (part) {
            case 0 -> routesAndTrace(net, lines);
            case 1 -> flowsAndOnPorts(net, lines);
            case 2 -> waiting(net, lines);
            default -> deficits(net, lines);
        }
        return lines;
    }

    private static void routesAndTrace(Net net, List<String> lines) {
        lines.add("now() = " + net.now());
        for (int k = -1; k <= 16; k++) {
            lines.add("trace(" + k + ") = " + net.trace(k));
        }
        for (int v = 0; v < NODES; v++) {
            for (int t = 0; t < NODES; t++) {
                lines.add("distance(" + v + ", " + t + ") = " + net.distance(v, t));
                lines.add("way(" + v + ", " + t + ") = " + net.way(v, t));
            }
        }
    }

    private static void flowsAndOnPorts(Net net, List<String> lines) {
        for (int f = -1; f <= FLOWS; f++) {
            lines.add("timer(" + f + ") = " + net.timer(f));
            for (int what = -1; what <= 7; what++) {
                lines.add("count(" + f + ", " + what + ") = " + net.count(f, what));
            }
        }
        for (int p = -1; p <= PORTS; p++) {
            lines.add("onPort(" + p + ") = " + net.onPort(p));
            lines.add("waiting(" + p + ", NONE) = " + net.waiting(p, DeficitNet.NONE));
        }
    }

    private static void waiting(Net net, List<String> lines) {
        for (int p = 0; p < PORTS; p++) {
            for (int f = 0; f < FLOWS; f++) {
                lines.add("waiting(" + p + ", " + f + ") = " + net.waiting(p, f));
            }
        }
    }

    private static void deficits(Net net, List<String> lines) {
        for (int p = 0; p < PORTS; p++) {
            for (int f = 0; f < FLOWS; f++) {
                lines.add("deficit(" + p + ", " + f + ") = " + net.deficit(p, f));
            }
        }
    }
}
