/** Promise 7: a state's number by its name. */
public final class Promise07NamedTest {
    public static void main(String[] args) {
        Probe x = Probe.of("state a in top", "state ab in a", "state ba in a", "state abcd in a", "state z in top",
                "state aa in z");
        Probe.due("top", x.named("top"), 0);
        Probe.due("a", x.named("a"), 1);
        Probe.due("ab", x.named("ab"), 2);
        Probe.due("ba", x.named("ba"), 3);
        Probe.due("abcd", x.named("abcd"), 4);
        Probe.due("z", x.named("z"), 5);
        Probe.due("aa", x.named("aa"), 6);
        Probe.due("blanks before and behind", x.named("   ab  "), 2);
        String[] none = {"", " ", "b", "abc", "abcde", "A", "a b", "a a", "to", "topp", "a.", "1", "in", "ac", "{"};
        for (String name : none) {
            Probe.due("'" + name + "'", x.named(name), Probe.ELEMENT);
            Probe.due("'" + name + "': the line is empty", x.line(), 0);
        }
        x.named("a");
        Probe.due("the line is empty behind a good one", x.named("z"), 5);
        theTableStays();
        Probe.end();
    }

    private static void theTableStays() {
        Probe x = Probe.of("state a in top", "state b in top", "on e from a to b");
        x.compile();
        x.event(0);
        Probe.due("b", x.named("b"), 2);
        Probe.due("c", x.named("c"), Probe.ELEMENT);
        Probe.due("an event's name", x.named("e"), Probe.ELEMENT);
        Probe.due("configurations", x.configurations(), 2);
        Probe.due("place", x.count(3), 1);
    }
}
