/** Promise 5: how many configurations the table has. */
public final class Promise05ConfigurationsTest {
    public static void main(String[] args) {
        Probe x = Probe.of("state a in top", "state b in top", "state c in top", "on e from a to b",
                "on e from b to c");
        Probe.due("without a table", x.configurations(), 0);
        Probe.due("compiled", x.compile(), 3);
        Probe.due("with one", x.configurations(), 3);
        x.event(0);
        Probe.due("behind an event", x.configurations(), 3);
        x.named("a");
        Probe.due("behind named", x.configurations(), 3);
        x.line("enter a x");
        Probe.due("dropped", x.configurations(), 0);
        x.compile();
        Probe.due("made again", x.configurations(), 3);
        Probe.end();
    }
}
