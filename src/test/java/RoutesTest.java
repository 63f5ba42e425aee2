/** Promises 11 and 12: distance and way. */
public final class RoutesTest {
    private static final int NONE = DeficitNet.NONE;

    public static void main(String[] args) {
        promise11Distance();
        promise11LongestPath();
        promise12WayTakesTheLeastPort();
        promise12WayIsNotTheCheapestLink();
        wrongNodes();
        theyStayWhenBegun();
        Checks.finish("RoutesTest");
    }

    private static void promise11Distance() {
        Net net = new Net();
        net.link(0, 1, 10, 1, 1);
        Checks.due("one link", net.distance(0, 1), 10);
        Checks.due("back", net.distance(1, 0), 10);
        net.link(1, 0, 7, 1, 1);
        Checks.due("a cheaper one beside it", net.distance(0, 1), 7);
        net.link(0, 2, 2, 1, 1);
        Checks.due("over node 0", net.distance(1, 2), 9);
        Checks.due("no distance", net.distance(0, 3), NONE);
        net.link(2, 1, 3, 1, 1);
        Checks.due("around", net.distance(0, 1), 5);
        Checks.due("around, back", net.distance(1, 0), 5);
        net.link(3, 4, 1, 1, 1);
        Checks.due("two parts", net.distance(0, 4), NONE);
        net.link(4, 1, 100, 1, 1);
        Checks.due("joined", net.distance(0, 3), 106);
        Checks.due("a node to itself", net.distance(6, 6), 0);
    }

    private static void promise11LongestPath() {
        Net net = new Net();
        for (int v = 0; v < 7; v++) {
            net.link(v, v + 1, 100, 1, 1);
        }
        Checks.due("all in a row", net.distance(0, 7), 700);
        Checks.due("all in a row, back", net.distance(7, 0), 700);
        Checks.due("way along the row", net.way(3, 7), 6);
        Checks.due("way back", net.way(3, 0), 5);
    }

    private static void promise12WayTakesTheLeastPort() {
        Net net = new Net();
        net.link(1, 0, 5, 1, 1);
        net.link(0, 1, 5, 1, 1);
        net.link(0, 2, 2, 1, 1);
        net.link(2, 1, 3, 1, 1);
        Checks.due("three of the same distance", net.way(0, 1), 1);
        Checks.due("three of the same distance, back", net.way(1, 0), 0);
        Checks.due("the only one", net.way(2, 1), 6);
        Checks.due("the only one, back", net.way(1, 2), 7);
    }

    private static void promise12WayIsNotTheCheapestLink() {
        Net net = new Net();
        net.link(0, 1, 1, 1, 1);
        net.link(1, 3, 9, 1, 1);
        net.link(0, 2, 4, 1, 1);
        net.link(2, 3, 4, 1, 1);
        Checks.due("distance", net.distance(0, 3), 8);
        Checks.due("way", net.way(0, 3), 4);
        Checks.due("way back", net.way(3, 0), 7);
        net.link(0, 3, 8, 1, 1);
        Checks.due("as far, with a greater number", net.way(0, 3), 4);
        Checks.due("as far, with a greater number, back", net.way(3, 0), 7);
    }

    private static void wrongNodes() {
        Net net = new Net();
        net.link(0, 7, 1, 1, 1);
        int[] wrong = {-1, 8, Integer.MIN_VALUE, Integer.MAX_VALUE};
        for (int w : wrong) {
            Checks.due("distance from no node", net.distance(w, 0), NONE);
            Checks.due("distance to no node", net.distance(0, w), NONE);
            Checks.due("distance of no nodes", net.distance(w, w), NONE);
            Checks.due("way from no node", net.way(w, 0), NONE);
            Checks.due("way to no node", net.way(0, w), NONE);
            Checks.due("way of no nodes", net.way(w, w), NONE);
        }
        Checks.due("way to itself", net.way(0, 0), NONE);
        Checks.due("no way", net.way(0, 3), NONE);
        Checks.due("no way back", net.way(3, 0), NONE);
    }

    private static void theyStayWhenBegun() {
        Net net = new Net();
        net.link(0, 7, 3, 1, 1);
        net.flow(0, 7, 10, 1);
        net.run(20);
        Checks.due("distance when begun", net.distance(7, 0), 3);
        Checks.due("way when begun", net.way(7, 0), 1);
    }
}
