/** Promise 10: which states are active in a configuration. */
public final class Promise10ActiveTest {
    public static void main(String[] args) {
        Probe x = Probe.of("state w in top whole", "state p in w", "state q in w", "state a in p", "state b in p",
                "state c in q", "state z in top", "state y in z", "on e from a to b", "on s from w to z");
        Probe.due("without a table", x.active(0, 0), false);
        Probe.due("compiled", x.compile(), 3);
        actives(x);
        nowhere(x);
        Probe.due("asking does not run", x.event(0), 1);
        x.line("enter a x");
        Probe.due("dropped", x.active(0, 0), false);
        Probe.end();
    }

    /** States 0 .. 8 are top w p q a b c z y; configurations 0 .. 2 those with a, with b, with z. */
    private static void actives(Probe x) {
        String[] want = {"11111.1..", "1111.11..", "1......11"};
        for (int c = 0; c < want.length; c++) {
            StringBuilder got = new StringBuilder();
            for (int s = 0; s < want[c].length(); s++) {
                got.append(x.active(c, s) ? '1' : '.');
            }
            Probe.due("active in " + c, got.toString(), want[c]);
        }
    }

    private static void nowhere(Probe x) {
        int[][] none = {{0, 9}, {0, -1}, {3, 0}, {-1, 0}, {0, 14}, {30, 0}, {0, Integer.MAX_VALUE},
            {0, Integer.MIN_VALUE}, {Integer.MAX_VALUE, 0}, {Integer.MIN_VALUE, 0}};
        for (int[] at : none) {
            Probe.due("active " + at[0] + " " + at[1], x.active(at[0], at[1]), false);
        }
    }
}
