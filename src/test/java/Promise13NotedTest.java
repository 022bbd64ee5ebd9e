/** Promise 13: how many marks the run has noted. */
public final class Promise13NotedTest {
    public static void main(String[] args) {
        Probe x = Probe.of("state a in top", "state b in top", "enter top tt", "enter a abc", "exit a d", "enter b ef",
                "on e from a to b do xyz", "on f from b to a");
        Probe.due("without a table", x.noted(), 0);
        x.compile();
        Probe.due("starting", x.noted(), 5);
        x.event(0);
        Probe.due("e at a", x.noted(), 11);
        x.event(0);
        Probe.due("e at b", x.noted(), 11);
        x.event(1);
        Probe.due("f at b", x.noted(), 14);
        x.event(2);
        Probe.due("no such event", x.noted(), 14);
        x.event(0);
        Probe.due("e at a again", x.noted(), 20);
        x.next(0, 0);
        x.trace(0, 0, 0);
        x.active(0, 0);
        Probe.due("asking notes nothing", x.noted(), 20);
        x.compile();
        Probe.due("since the table was made", x.noted(), 5);
        x.event(0);
        x.line("exit b x");
        Probe.due("dropped", x.noted(), 0);
        Probe.end();
    }
}
