import java.util.function.Consumer;

/** Ways to build a net, for tests that need several states. */
final class Nets {
    private Nets() {
    }

    /** A way to build, and as many events after it; none if it is 0, but for run(0). */
    static Consumer<Net> then(Consumer<Net> recipe, int events) {
        return net -> {
            recipe.accept(net);
            net.run(events % 50);
            for (int n = 0; n < events / 50; n++) {
                net.run(50);
            }
        };
    }

    /** Small, but with losses, deficits and TIMEOUTs, so that every number that was given is felt later. */
    static void small(Net net) {
        net.link(0, 1, 3, 2, 1);
        net.link(1, 2, 5, 3, 4);
        net.link(0, 2, 9, 1, 0);
        net.shape(0, 3, 2);
        net.shape(2, 5, 3);
        net.flow(0, 2, 20, 4);
        net.flow(2, 0, 10, 1);
        net.flow(0, 1, 16, 8);
        net.tune(0, 5, 30, 2);
        net.tune(1, 3, 40, 0);
    }

    /** As many links and flows as there may be. */
    static void full(Net net) {
        for (int l = 0; l < 12; l++) {
            net.link(l % 7, l % 7 + 1, 3 + l, 1 + l, 3 * l);
        }
        for (int f = 0; f < 6; f++) {
            net.flow(f, f == 0 ? 7 : f - 1, 20 + f, 8 - f);
            net.tune(f, 8 - f, 20 + f, f);
            net.shape(4 * f, 3 + f, 3);
        }
    }

    /** So that after some 200 events 64 packets are in the net, and flows have deficits at port 4. */
    static void crowded(Net net) {
        for (int f = 0; f < 6; f++) {
            net.link(f, f + 1, 1, 1, 40);
            net.shape(2 * f, 1, 8);
            net.flow(f / 2, 6, 100, 8 - f);
            net.tune(f, 8, 20 + f, 0);
        }
    }

    /** Thirteen events in all. */
    static void brief(Net net) {
        net.link(0, 1, 1, 1, 0);
        net.flow(0, 1, 3, 1);
    }

    /** With the first values of ports and flows, at every port and for every flow. */
    static void plain(Net net) {
        for (int f = 0; f < 6; f++) {
            net.link(f, f + 1, 1, 1, 1);
            net.link(f + 1, f, 2, 2, 2);
        }
        for (int f = 0; f < 6; f++) {
            net.flow(2, f < 3 ? 6 : 0, 30, 1 + f);
        }
    }
}
