/** Promise 8: the next configuration for an event. */
public final class Promise08NextTest {
    public static void main(String[] args) {
        Probe x = Probe.of("state a in top", "state b in top", "state c in top", "on e from a to b",
                "on e from b to c", "on f from c to a", "on f from b to b");
        Probe.due("without a table", x.next(0, 0), Probe.ELEMENT);
        x.compile();
        int[][] want = {{1, 0}, {2, 1}, {2, 0}};
        for (int c = 0; c < 3; c++) {
            for (int e = 0; e < 2; e++) {
                Probe.due("next " + c + " " + e, x.next(c, e), want[c][e]);
            }
        }
        int[][] none = {{3, 0}, {-1, 0}, {0, 2}, {0, -1}, {0, 6}, {30, 0}, {1, -6}, {-1, 6}, {29, 5},
            {Integer.MAX_VALUE, 0}, {Integer.MIN_VALUE, 0}, {0, Integer.MAX_VALUE}, {0, Integer.MIN_VALUE}};
        for (int[] at : none) {
            Probe.due("next " + at[0] + " " + at[1], x.next(at[0], at[1]), Probe.ELEMENT);
        }
        x.event(0);
        Probe.due("the run does not matter", x.next(0, 0), 1);
        Probe.due("asking does not run", x.count(3), 1);
        x.line("state d in top");
        Probe.due("dropped", x.next(0, 0), Probe.ELEMENT);
        Probe.end();
    }
}
