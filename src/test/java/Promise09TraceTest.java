/** Promise 9: the characters of traces, at most 40 of each. */
public final class Promise09TraceTest {
    public static void main(String[] args) {
        ordinary();
        fortyAtMost();
        exactlyForty();
        Probe.end();
    }

    private static void ordinary() {
        Probe x = Probe.of("state a in top", "state b in top", "enter top t", "enter a ab", "exit a c", "enter b de",
                "exit b f", "exit top u", "on e from a to b do xyz", "on f from b to a", "on g from b to b do g");
        Probe.due("without a table", x.trace(0, -1, 0), -1);
        x.compile();
        Probe.due("starting", x.trace(0, -1), "tab");
        Probe.due("e at a", x.trace(0, 0), "cxyzde");
        Probe.due("f at a: nothing", x.trace(0, 1), "");
        Probe.due("e at b: nothing", x.trace(1, 0), "");
        Probe.due("f at b", x.trace(1, 1), "fab");
        Probe.due("g at b", x.trace(1, 2), "fgde");
        Probe.due("character 5", x.trace(0, 0, 5), 'e');
        int[][] none = {{0, 0, 6}, {0, 0, -1}, {0, -1, 3}, {0, -1, -1}, {1, -1, 0}, {-1, -1, 0}, {2, 0, 0}, {-1, 0, 0},
            {0, 3, 0}, {0, -2, 0}, {0, 0, Integer.MAX_VALUE}, {0, 0, Integer.MIN_VALUE}, {0, 0, 40}, {0, -1, 40},
            {Integer.MAX_VALUE, 0, 0}, {Integer.MIN_VALUE, -1, 0}, {0, Integer.MIN_VALUE, 0}, {30, 0, 0}, {30, -1, 0}};
        for (int[] at : none) {
            Probe.due("trace " + at[0] + " " + at[1] + " " + at[2], x.trace(at[0], at[1], at[2]), -1);
        }
    }

    private static final String[] SEVEN = {"state a in top", "state b in a", "state c in b", "state d in c",
        "state e in d", "state f in e"};

    /** Seven states with six marks each are 42 for starting, and 36 + 3 + 36 for the event. */
    private static void fortyAtMost() {
        Probe x = Probe.of(SEVEN);
        for (String name : new String[] {"top", "a", "b", "c", "d", "e", "f"}) {
            x.line("enter " + name + " xyz");
            x.line("enter " + name + " uvw");
        }
        x.line("on e from a to a do rst");
        x.line("exit f lmn");
        x.line("exit a opq");
        x.compile();
        Probe.due("starting", x.trace(0, -1), "xyzuvw".repeat(7).substring(0, 40));
        Probe.due("noted", x.noted(), 40);
        Probe.due("event", x.trace(0, 0), ("lmnopqrst" + "xyzuvw".repeat(6)).substring(0, 40));
        x.event(0);
        Probe.due("noted behind the event", x.noted(), 80);
    }

    private static void exactlyForty() {
        Probe x = Probe.of(SEVEN);
        for (String name : new String[] {"a", "b", "c", "d", "e", "f"}) {
            x.line("enter " + name + " xyz");
            x.line("enter " + name + " uvw");
        }
        x.line("enter top abc");
        x.line("enter top d");
        x.compile();
        Probe.due("character 39", x.trace(0, -1, 39), 'w');
        Probe.due("character 40", x.trace(0, -1, 40), -1);
        Probe.due("noted", x.noted(), 40);
        x.line("enter top e");
        x.compile();
        Probe.due("character 39 of 41", x.trace(0, -1, 39), 'v');
        Probe.due("character 40 of 41", x.trace(0, -1, 40), -1);
    }
}
