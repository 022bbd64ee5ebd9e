/** Promise 6: counts of states, rules, events, and the run's configuration. */
public final class Promise06CountTest {
    public static void main(String[] args) {
        Probe x = new Probe();
        counts(x, 1, 0, 0, -1);
        x.line("state a in top");
        counts(x, 2, 0, 0, -1);
        x.line("state b in top");
        x.line("on e from a to b");
        counts(x, 3, 1, 1, -1);
        x.line("on e from b to a");
        counts(x, 3, 2, 1, -1);
        x.line("on f from b to a");
        x.line("enter a x");
        counts(x, 3, 3, 2, -1);
        x.compile();
        counts(x, 3, 3, 2, 0);
        x.event(0);
        counts(x, 3, 3, 2, 1);
        x.event(7);
        counts(x, 3, 3, 2, 1);
        x.event(1);
        counts(x, 3, 3, 2, 0);
        x.line("state c in top");
        counts(x, 4, 3, 2, -1);
        Probe.end();
    }

    private static void counts(Probe x, int states, int rules, int events, int place) {
        Probe.due("states", x.count(0), states);
        Probe.due("rules", x.count(1), rules);
        Probe.due("events", x.count(2), events);
        Probe.due("place", x.count(3), place);
        for (int other : new int[] {4, 5, -1, -2, Integer.MAX_VALUE, Integer.MIN_VALUE}) {
            Probe.due("count " + other, x.count(other), -1);
        }
    }
}
