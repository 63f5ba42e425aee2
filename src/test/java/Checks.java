import java.util.List;

/** Counts and prints the answers that are not the ones due. */
final class Checks {
    static final int START = 1;
    static final int LEAVE = 2;
    static final int ARRIVE = 3;
    static final int TIMEOUT = 4;
    static final int ANSWER = 128;

    private static int wrong = 0;

    private Checks() {
    }

    static void due(String what, long got, long want) {
        if (got != want) {
            wrong++;
            System.out.println(what + " answered " + got + ", due is " + want);
        }
    }

    static void due(String what, boolean got, boolean want) {
        if (got != want) {
            wrong++;
            System.out.println(what + " answered " + got + ", due is " + want);
        }
    }

    static void holds(String what, boolean condition) {
        due(what, condition, true);
    }

    /** Two looks at the same calls: prints the lines that differ. */
    static void same(String when, List<String> got, List<String> want) {
        if (got.equals(want)) {
            return;
        }
        for (int i = 0; i < want.size(); i++) {
            if (!got.get(i).equals(want.get(i))) {
                wrong++;
                System.out.println(when + ": " + got.get(i) + ", due is " + want.get(i));
            }
        }
    }

    static long event(long tick, int kind, int subject, int number) {
        return tick * 1048576 + kind * 65536 + subject * 256 + number;
    }

    /** Steps once and looks at what came. */
    static void next(Net net, long tick, int kind, int subject, int number) {
        String name = "event of kind " + kind + " at tick " + tick;
        due("step() to the " + name, net.step(), true);
        due("now() after the " + name, net.now(), tick);
        long got = net.trace(0);
        if (got != event(tick, kind, subject, number)) {
            wrong++;
            System.out.println("trace(0) is " + tell(got) + ", due is " + tell(event(tick, kind, subject, number)));
        }
    }

    static void noMore(Net net) {
        due("step() without an event", net.step(), false);
    }

    private static String tell(long event) {
        return "tick " + event / 1048576 + " kind " + event / 65536 % 16 + " subject " + event / 256 % 256
                + " number " + event % 256;
    }

    static void finish(String test) {
        if (wrong != 0) {
            System.out.println(test + ": " + wrong + " answers are not as due");
            System.exit(1);
        }
        System.out.println(test + ": all answers are as due");
    }
}
