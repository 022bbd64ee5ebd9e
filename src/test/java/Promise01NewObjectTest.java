/** Promise 1: top alone, no rules, no table. */
public final class Promise01NewObjectTest {
    public static void main(String[] args) {
        Probe x = new Probe();
        Probe.due("states", x.count(0), 1);
        Probe.due("rules", x.count(1), 0);
        Probe.due("events", x.count(2), 0);
        Probe.due("place", x.count(3), -1);
        Probe.due("configurations", x.configurations(), 0);
        Probe.due("noted", x.noted(), 0);
        Probe.due("event without a table", x.event(0), Probe.STATE);
        Probe.due("event -1 without a table", x.event(-1), Probe.STATE);
        Probe.due("next without a table", x.next(0, 0), Probe.ELEMENT);
        Probe.due("trace without a table", x.trace(0, -1, 0), -1);
        Probe.due("active without a table", x.active(0, 0), false);
        Probe.due("current without a table", x.current(0, 0), -1);
        Probe.due("empty line", x.line(), 0);
        Probe.due("no name", x.named(), Probe.ELEMENT);
        Probe.due("top", x.named("top"), 0);
        Probe.due("top alone compiled", x.compile(), 1);
        Probe.due("top is active", x.active(0, 0), true);
        Probe.due("top has no current child", x.current(0, 0), -1);
        twoObjectsShareNothing();
        Probe.end();
    }

    private static void twoObjectsShareNothing() {
        Probe x = new Probe();
        Probe y = new Probe();
        Probe.due("state in x", x.line("state a in top"), 1);
        Probe.due("rule in x", x.line("on e from a to a"), 3);
        x.compile();
        Probe.due("states in y", y.count(0), 1);
        Probe.due("rules in y", y.count(1), 0);
        Probe.due("events in y", y.count(2), 0);
        Probe.due("configurations in y", y.configurations(), 0);
    }
}
