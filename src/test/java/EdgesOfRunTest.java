/** The boundary cases that promises 6, 12 and 13 name: count, event and noted. */
public final class EdgesOfRunTest {
    public static void main(String[] args) {
        placeWithoutATable();
        otherCounts();
        eventWithoutATable();
        noSuchEvent();
        sixEvents();
        notedAtMostFortyEach();
        startingIsCounted();
        notedWithoutATable();
        Probe.end();
    }

    private static Story small() {
        return Story.of("state a in top", "state b in top", "enter top t", "enter a a", "exit a x", "enter b bcd",
                "on go from a to b do m", "on go from b to a", "on stay from b to b");
    }

    private static Story running() {
        return small().compiled().then(x -> x.event(0));
    }

    private static Story tooMany() {
        return Story.of(EdgesOfTermsTest.THIRTY).reading("state y in top", "on t from e to y if h");
    }

    /** Stories without a table: never compiled, dropped by a line of each kind, and refused. */
    private static Story[] withoutTable() {
        return new Story[] {Story.of(), small(), running().reading("state z in top"), running().reading("enter b x"),
            running().reading("on new from a to b"), tooMany().compiled()};
    }

    private static void placeWithoutATable() {
        Probe.sentence("6: 3: -1 without a table");
        for (Story story : withoutTable()) {
            story.unchangedBy("place", x -> x.count(3), -1);
        }
        Probe.due("at first", small().compiled().ask(x -> x.count(3)), 0);
        Probe.due("behind an event", running().ask(x -> x.count(3)), 1);
        Probe.due("compiled again", running().compiled().ask(x -> x.count(3)), 0);
        Probe.due("behind a line without words", running().then(x -> x.line(" ")).ask(x -> x.count(3)), 1);
    }

    private static void otherCounts() {
        Probe.sentence("6: -1 for others");
        for (Story story : new Story[] {Story.of(), small(), running()}) {
            for (int outside : Story.outside(4)) {
                story.unchangedBy("count " + outside, x -> x.count(outside), -1);
            }
        }
        int[] want = {3, 3, 2, 1};
        for (int what = 0; what < want.length; what++) {
            int kind = what;
            running().unchangedBy("count " + what, x -> x.count(kind), want[what]);
        }
    }

    private static void eventWithoutATable() {
        Probe.sentence("12: IllegalStateException without a table");
        for (Story story : withoutTable()) {
            story.unchangedBy("event 0", x -> x.event(0), Probe.STATE);
            for (int outside : Story.outside(6)) {
                story.unchangedBy("event " + outside, x -> x.event(outside), Probe.STATE);
            }
        }
    }

    private static void noSuchEvent() {
        Probe.sentence("12: IllegalArgumentException when there is no such event");
        for (Story story : new Story[] {small().compiled(), running()}) {
            for (int outside : Story.outside(2)) {
                story.unchangedBy("event " + outside, x -> x.event(outside), Probe.ARGUMENT);
            }
        }
        for (int outside : Story.outside(0)) {
            Story.of().compiled().unchangedBy("event " + outside, x -> x.event(outside), Probe.ARGUMENT);
        }
        Probe.due("the first one", running().ask(x -> x.event(0)), 0);
        Probe.due("the last one", running().ask(x -> x.event(1)), 1);
        Probe.due("one for which there is no rule there", small().compiled().ask(x -> x.event(1)), 0);
    }

    private static void sixEvents() {
        Probe.sentence("12: the last of six events");
        Story story = Story.of("state a in top", "state b in top", "on a from a to a", "on b from a to a",
                "on c from a to a", "on d from a to a", "on e from a to a", "on f from a to b do x").compiled();
        Probe.due("event 5", story.ask(x -> x.event(5)), 1);
        Probe.due("noted", story.then(x -> x.event(5)).ask(Probe::noted), 1);
        for (int outside : Story.outside(6)) {
            story.unchangedBy("event " + outside, x -> x.event(outside), Probe.ARGUMENT);
        }
    }

    /** Starting notes 39 to 41 marks, and leaving a for itself 40 and more each time. */
    private static void notedAtMostFortyEach() {
        Probe.sentence("13: of each trace its at most 40");
        Story chain = Story.of("state a in top", "state b in a", "state c in b", "state d in c", "state e in d",
                "state f in e", "on go from a to a do u");
        for (char name = 'a'; name <= 'f'; name++) {
            chain = chain.reading("enter " + name + " abc", "enter " + name + " def");
        }
        Story[] stories = {chain.reading("enter top tuv"), chain.reading("enter top tuv", "exit a x", "enter top w"),
            chain.reading("enter top tuv", "exit a xy", "enter top wx"),
            chain.reading("enter top tuv", "exit a xyz", "enter top wxy"),
            chain.reading("exit a xyz", "exit a uvw")};
        int[] starting = {39, 40, 40, 40, 36};
        int[] going = {37, 38, 39, 40, 40};
        for (int i = 0; i < stories.length; i++) {
            Story run = stories[i].compiled();
            Probe.due("starting " + i, run.ask(Probe::noted), starting[i]);
            for (int times = 1; times <= 5; times++) {
                run = run.then(x -> x.event(0));
                Probe.due("going " + i + ", " + times, run.ask(Probe::noted), starting[i] + times * going[i]);
            }
        }
    }

    private static void startingIsCounted() {
        Probe.sentence("13: starting counted");
        Probe.due("at first", small().compiled().ask(Probe::noted), 2);
        Probe.due("behind an event", running().ask(Probe::noted), 7);
        Probe.due("behind one without marks", running().then(x -> x.event(0)).then(x -> x.event(1)).ask(
                Probe::noted), 8);
        Probe.due("compiled again", running().compiled().ask(Probe::noted), 2);
        Probe.due("no marks for starting", Story.of("state a in top", "exit a x").compiled().ask(Probe::noted), 0);
        running().unchangedBy("asked", Probe::noted, 7);
        running().unchangedBy("a refused event", x -> x.event(2), Probe.ARGUMENT);
    }

    private static void notedWithoutATable() {
        Probe.sentence("13: 0 without one");
        for (Story story : withoutTable()) {
            story.unchangedBy("noted", Probe::noted, 0);
        }
        Probe.due("with one", running().ask(Probe::noted) > 0, true);
        Probe.due("with one again", running().reading("enter b x").compiled().ask(Probe::noted), 2);
    }
}
