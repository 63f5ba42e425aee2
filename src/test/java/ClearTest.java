import java.util.List;
import java.util.function.Consumer;

/** Promise 6, "Everything is as at first.": a cleared object answers and goes on as a new one does. */
public final class ClearTest {
    private static final int[] EVENTS_AFTER = {0, 1, 5, 20, 50, 250};

    public static void main(String[] args) {
        crowdedIsCrowded();
        List<Consumer<Net>> before = List.of(
                net -> { },
                Net::step,
                Nets::full,
                Nets.then(Nets::small, 40),
                Nets.then(Nets::full, 100),
                Nets.then(Nets::crowded, 250),
                Nets.then(Nets::crowded, 900),
                Nets.then(Nets::brief, 13));
        List<Consumer<Net>> after = List.of(Nets::small, Nets::full, Nets::crowded, Nets::brief, Nets::plain);
        for (Consumer<Net> first : before) {
            for (int part = 0; part < Look.PARTS; part++) {
                Net cleared = cleared(first);
                Checks.same("cleared", Look.at(cleared, part), Look.at(new Net(), part));
                for (Consumer<Net> second : after) {
                    goesOnAsNew(first, second, part);
                }
            }
        }
        Checks.finish("ClearTest");
    }

    private static Net cleared(Consumer<Net> first) {
        Net net = new Net();
        first.accept(net);
        net.clear();
        return net;
    }

    private static void goesOnAsNew(Consumer<Net> first, Consumer<Net> second, int part) {
        for (int events : EVENTS_AFTER) {
            Net cleared = cleared(first);
            Net fresh = new Net();
            Nets.then(second, events).accept(cleared);
            Nets.then(second, events).accept(fresh);
            Checks.same("cleared, and then " + events + " events", Look.at(cleared, part), Look.at(fresh, part));
        }
    }

    /** Else the test would not see what is left of packets and deficits. */
    private static void crowdedIsCrowded() {
        Net net = new Net();
        Nets.then(Nets::crowded, 250).accept(net);
        int inNet = 0;
        int deficits = 0;
        for (int f = 0; f < 6; f++) {
            inNet += net.count(f, 3) - net.count(f, 4) - net.count(f, 5);
            deficits += net.deficit(4, f);
        }
        Checks.due("in the net", inNet, 64);
        Checks.holds("there are deficits", deficits > 0);
    }
}
