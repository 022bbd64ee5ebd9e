/** The boundary cases that promises 4, 5 and 8 to 11 name: compile, configurations, next, trace, active, current. */
public final class EdgesOfTableTest {
    public static void main(String[] args) {
        compileThirty();
        compileThirtyOne();
        configurationsWithoutATable();
        nextOutsideTheTable();
        nextInALargeTable();
        traceOfStarting();
        traceWhereThereIsNone();
        activeWhereThereIsNone();
        currentWhereThereIsNone();
        currentOfWholeAndOfChildless();
        Probe.end();
    }

    /** Configurations 0 and 1 are those with a and with b; w is whole; events are go and stay. */
    private static Story small() {
        return Story.of("state w in top whole", "state p in w", "state q in w", "state a in p", "state b in p",
                "enter top t", "enter a a", "exit a x", "enter b bcd", "on go from a to b do m", "on go from b to a",
                "on stay from q to b");
    }

    private static Story compiled() {
        return small().compiled();
    }

    private static Story running() {
        return compiled().then(x -> x.event(0));
    }

    /** Stories without a table: never compiled, dropped by a line of each kind, and refused. */
    private static Story[] withoutTable() {
        return new Story[] {Story.of(), small(), running().reading("state z in top"), running().reading("enter b x"),
            running().reading("exit top x"), running().reading("on new from a to b"), tooMany().compiled(),
            tooMany().compiled().compiled()};
    }

    private static Story thirty() {
        return Story.of(EdgesOfTermsTest.THIRTY);
    }

    private static Story tooMany() {
        return thirty().reading("state y in top", "on t from e to y if h");
    }

    private static void compileThirty() {
        Probe.sentence("4: how many there are, at most 30");
        Probe.due("thirty", thirty().ask(Probe::compile), 30);
        Probe.due("again", thirty().compiled().ask(Probe::compile), 30);
        Probe.due("configurations", thirty().compiled().ask(Probe::configurations), 30);
        Probe.due("the run is at 0", thirty().compiled().ask(x -> x.count(3)), 0);
        Probe.due("the run is at 0 again", thirty().compiled().then(x -> x.event(2)).compiled().ask(
                x -> x.count(3)), 0);
        thirty().compiled().then(x -> x.event(2)).compiled().looksLike(thirty().compiled(), "compiled again");
        Probe.due("one", Story.of().ask(Probe::compile), 1);
    }

    private static void compileThirtyOne() {
        Probe.sentence("4: IllegalStateException when there would be more than 30");
        tooMany().unchangedBy("thirty-one", Probe::compile, Probe.STATE);
        tooMany().compiled().unchangedBy("once more", Probe::compile, Probe.STATE);
        Story refused = tooMany().compiled();
        Probe.due("no configurations", refused.ask(Probe::configurations), 0);
        Probe.due("no place", refused.ask(x -> x.count(3)), -1);
        Probe.due("nothing noted", refused.ask(Probe::noted), 0);
        Probe.due("no event", refused.ask(x -> x.event(0)), Probe.STATE);
        Probe.due("the line that is written stays", tooMany().ask(x -> {
            x.writeAll(" top");
            x.compile();
            return x.named();
        }), 0);
        Probe.due("the chart stays", refused.ask(x -> x.count(0) * 10000 + x.count(1) * 100 + x.count(2)), 140904);
    }

    private static void configurationsWithoutATable() {
        Probe.sentence("5: 0 without one");
        for (Story story : withoutTable()) {
            story.unchangedBy("configurations", Probe::configurations, 0);
        }
        Probe.due("with one", running().ask(Probe::configurations), 2);
        Probe.due("with the least one", Story.of().compiled().ask(Probe::configurations), 1);
        Probe.due("with the largest one", thirty().compiled().ask(Probe::configurations), 30);
    }

    private static void nextOutsideTheTable() {
        Probe.sentence("8: NoSuchElementException when there is no such configuration or event in the table");
        for (Story story : withoutTable()) {
            nextIsNone(story, 0, 0);
        }
        Story story = running();
        Probe.due("the last of both", story.ask(x -> x.next(1, 1)), 1);
        for (int outside : Story.outside(2)) {
            nextIsNone(story, outside, 0);
            nextIsNone(story, outside, 1);
            nextIsNone(story, 0, outside);
            nextIsNone(story, 1, outside);
            nextIsNone(story, outside, outside);
            nextIsNone(story, outside, -1);
        }
        nextIsNone(Story.of().compiled(), 0, 0);
        nextIsNone(Story.of().compiled(), 0, -1);
    }

    private static void nextIsNone(Story story, int configuration, int event) {
        story.unchangedBy("next " + configuration + " " + event, x -> x.next(configuration, event), Probe.ELEMENT);
    }

    /** With 30 configurations and 6 events: those three that the chart names, and three of which nothing comes. */
    private static void nextInALargeTable() {
        Probe.sentence("8: in the largest table");
        Story story = thirty().reading("on u from a to a", "on v from a to a", "on x from h to f").compiled();
        Probe.due("configurations", story.ask(Probe::configurations), 30);
        for (int configuration = 0; configuration < 30; configuration++) {
            int at = configuration;
            for (int event = 0; event < 6; event++) {
                int given = event;
                int next = story.ask(x -> x.next(at, given));
                Probe.due("next " + at + " " + given, next >= 0 && next < 30, true);
            }
            for (int outside : Story.outside(6)) {
                Probe.due("next " + at + " " + outside, story.ask(x -> x.next(at, outside)), Probe.ELEMENT);
            }
        }
        for (int outside : Story.outside(30)) {
            Probe.due("next " + outside + " 0", story.ask(x -> x.next(outside, 0)), Probe.ELEMENT);
            Probe.due("next " + outside + " 5", story.ask(x -> x.next(outside, 5)), Probe.ELEMENT);
        }
    }

    private static void traceOfStarting() {
        Probe.sentence("9: event -1 and configuration 0: of starting");
        for (Story story : new Story[] {compiled(), running()}) {
            story.unchangedBy("character 0", x -> x.trace(0, -1, 0), 't');
            story.unchangedBy("character 1", x -> x.trace(0, -1, 1), 'a');
            traceIsNone(story, 0, -1, 2);
            for (int outside : Story.outside(1)) {
                traceIsNone(story, outside, -1, 0);
            }
            for (int outside : Story.outside(2)) {
                traceIsNone(story, 0, -1, outside);
            }
            traceIsNone(story, 0, -2, 0);
        }
        traceIsNone(Story.of().compiled(), 0, -1, 0);
        Probe.due("of top alone", Story.of("enter top t").compiled().ask(x -> x.trace(0, -1, 0)), 't');
    }

    private static void traceWhereThereIsNone() {
        Probe.sentence("9: -1 when there is none");
        for (Story story : withoutTable()) {
            traceIsNone(story, 0, -1, 0);
            traceIsNone(story, 0, 0, 0);
        }
        Story story = running();
        Probe.due("go at a", story.trace(0, 0), "xmbcd");
        Probe.due("the last character", story.ask(x -> x.trace(0, 0, 4)), 'd');
        Probe.due("go at b", story.trace(1, 0), "a");
        Probe.due("stay at a", story.trace(0, 1), "xbcd");
        for (int outside : Story.outside(5)) {
            traceIsNone(story, 0, 0, outside);
        }
        for (int outside : Story.outside(2)) {
            traceIsNone(story, outside, 0, 0);
            traceIsNone(story, outside, 1, 0);
            traceIsNone(story, outside, outside, outside);
            traceIsNone(story, 1, outside, 0);
            if (outside != -1) {
                traceIsNone(story, 0, outside, 0);
            }
        }
        traceIsNone(story, 1, 0, 1);
        traceIsNone(story, 0, 0, 40);
        Story nothing = Story.of("state a in top", "state b in top", "on go from b to a do xyz").compiled();
        traceIsNone(nothing, 0, 0, 0);
    }

    private static void traceIsNone(Story story, int configuration, int event, int i) {
        story.unchangedBy("trace " + configuration + " " + event + " " + i, x -> x.trace(configuration, event, i), -1);
    }

    private static void activeWhereThereIsNone() {
        Probe.sentence("10: false when there is no such one, or none in the table");
        for (Story story : withoutTable()) {
            isNotActive(story, 0, 0);
            isNotActive(story, 0, 1);
        }
        Story story = running();
        int[][] want = {{1, 1, 1, 1, 1, 0}, {1, 1, 1, 1, 0, 1}};
        for (int configuration = 0; configuration < 2; configuration++) {
            int at = configuration;
            for (int state = 0; state < 6; state++) {
                int asked = state;
                story.unchangedBy("active " + at + " " + asked, x -> x.active(at, asked) ? 1 : 0, want[at][asked]);
            }
            for (int outside : Story.outside(6)) {
                isNotActive(story, at, outside);
            }
        }
        for (int outside : Story.outside(2)) {
            isNotActive(story, outside, 0);
            isNotActive(story, outside, 5);
            isNotActive(story, outside, outside);
        }
    }

    private static void isNotActive(Story story, int configuration, int state) {
        story.unchangedBy("active " + configuration + " " + state, x -> x.active(configuration, state) ? 1 : 0, 0);
    }

    private static void currentWhereThereIsNone() {
        Probe.sentence("11: -1 when there is no such one in the table");
        for (Story story : withoutTable()) {
            hasNoCurrent(story, 0, 0);
        }
        Story story = running();
        Probe.due("top's", story.ask(x -> x.current(1, 0)), 1);
        Probe.due("p's at 0", story.ask(x -> x.current(0, 2)), 4);
        Probe.due("p's at 1", story.ask(x -> x.current(1, 2)), 5);
        for (int outside : Story.outside(6)) {
            hasNoCurrent(story, 0, outside);
            hasNoCurrent(story, 1, outside);
        }
        for (int outside : Story.outside(2)) {
            hasNoCurrent(story, outside, 0);
            hasNoCurrent(story, outside, 2);
            hasNoCurrent(story, outside, outside);
        }
        Story large = thirty().compiled();
        Probe.due("top's at 29", large.ask(x -> x.current(29, 0)) > 0, true);
        hasNoCurrent(large, 30, 0);
        hasNoCurrent(large, 29, 13);
    }

    private static void currentOfWholeAndOfChildless() {
        Probe.sentence("11: -1 when the state is whole or has no children");
        for (Story story : new Story[] {compiled(), running()}) {
            for (int state : new int[] {1, 3, 4, 5}) {
                hasNoCurrent(story, 0, state);
                hasNoCurrent(story, 1, state);
            }
        }
        hasNoCurrent(Story.of().compiled(), 0, 0);
        Story kinds = Story.of("state a in top whole", "state b in top remember", "state c in top remember",
                "state d in c", "state e in a").compiled();
        hasNoCurrent(kinds, 0, 1);
        hasNoCurrent(kinds, 0, 2);
        hasNoCurrent(kinds, 0, 4);
        Probe.due("c's, though c is not active", kinds.ask(x -> x.current(0, 3)), 4);
    }

    private static void hasNoCurrent(Story story, int configuration, int state) {
        story.unchangedBy("current " + configuration + " " + state, x -> x.current(configuration, state), -1);
    }
}
