/** Promise 11: the current child of a state in a configuration. */
public final class Promise11CurrentTest {
    public static void main(String[] args) {
        Probe x = Probe.of("state w in top whole", "state p in w remember", "state q in w", "state a in p",
                "state b in p", "state c in q", "state z in top", "state v in z whole", "on e from a to b",
                "on s from w to z");
        Probe.due("without a table", x.current(0, 0), -1);
        Probe.due("compiled", x.compile(), 4);
        // States 0 .. 8 are top w p q a b c z v; v was made whole and has no children.
        int[][] want = {
            {1, -1, 4, 6, -1, -1, -1, 8, -1},
            {1, -1, 5, 6, -1, -1, -1, 8, -1},
            {7, -1, 4, 6, -1, -1, -1, 8, -1},
            {7, -1, 5, 6, -1, -1, -1, 8, -1},
        };
        for (int c = 0; c < want.length; c++) {
            for (int s = 0; s < want[c].length; s++) {
                Probe.due("current " + c + " " + s, x.current(c, s), want[c][s]);
            }
        }
        int[][] none = {{0, 9}, {0, -1}, {4, 0}, {-1, 0}, {0, 14}, {-1, 14}, {30, 0}, {0, Integer.MAX_VALUE},
            {0, Integer.MIN_VALUE}, {Integer.MAX_VALUE, 0}, {Integer.MIN_VALUE, 0}};
        for (int[] at : none) {
            Probe.due("current " + at[0] + " " + at[1], x.current(at[0], at[1]), -1);
        }
        x.line("enter a x");
        Probe.due("dropped", x.current(0, 0), -1);
        Probe.end();
    }
}
