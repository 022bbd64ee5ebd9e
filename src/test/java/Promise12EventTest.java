/** Promise 12: the run gets events. */
public final class Promise12EventTest {
    public static void main(String[] args) {
        Probe x = Probe.of("state a in top", "state b in top", "state c in top", "on e from a to b",
                "on e from b to c", "on f from c to a");
        Probe.due("without a table", x.event(0), Probe.STATE);
        Probe.due("no such event without a table", x.event(2), Probe.STATE);
        x.compile();
        int[][] steps = {{1, 0}, {0, 1}, {1, 1}, {0, 2}, {0, 2}, {1, 0}, {0, 1}};
        for (int[] step : steps) {
            Probe.due("event " + step[0], x.event(step[0]), step[1]);
            Probe.due("place", x.count(3), step[1]);
        }
        for (int event : new int[] {2, -1, 6, 7, Integer.MAX_VALUE, Integer.MIN_VALUE}) {
            Probe.due("event " + event, x.event(event), Probe.ARGUMENT);
            Probe.due("place stays", x.count(3), 1);
        }
        x.line("");
        Probe.due("an empty line does not matter", x.event(0), 2);
        x.line("enter a x");
        Probe.due("dropped", x.event(0), Probe.STATE);
        Probe.due("dropped, no such event", x.event(-1), Probe.STATE);
        x.compile();
        Probe.due("from 0 again", x.event(0), 1);
        noEvents();
        Probe.end();
    }

    private static void noEvents() {
        Probe x = new Probe();
        x.compile();
        Probe.due("no events", x.event(0), Probe.ARGUMENT);
        Probe.due("place", x.count(3), 0);
    }
}
