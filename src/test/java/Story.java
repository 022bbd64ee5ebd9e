import java.util.ArrayList;
import java.util.LinkedHashMap;
import java.util.List;
import java.util.Map;

/**
 * A run of calls that is made anew, on a new object, for every question: so no question can disturb another one, and
 * all that an object shows can be compared before and behind a call, though an object stands 512 calls alone.
 */
final class Story {
    interface Call {
        int on(Probe x);
    }

    private static final String[] NAMES = {"top", "a", "b", "c", "d", "e", "f", "g", "h", "i", "j", "k", "l", "m", "n",
        "o", "p", "q", "r", "s", "t", "u", "v", "w", "x", "y", "z", "aa", "abcd", "zzzz"};

    private final List<Call> calls;
    private Map<String, String> picture;

    private Story(List<Call> calls) {
        this.calls = calls;
    }

    /** The story of reading these lines, all of which have to be good ones. */
    static Story of(String... lines) {
        return new Story(List.of()).reading(lines);
    }

    /** Outside of 0 .. size - 1: the neighbours, the least and the greatest, and such as wrap round to inside. */
    static int[] outside(int size) {
        return new int[] {-1, size, -2, size + 1, -size - 1, Integer.MIN_VALUE, Integer.MAX_VALUE,
            Integer.MIN_VALUE + 1, Integer.MAX_VALUE - 1, 1 << 30, 1 << 29, 1 << 28, 1 << 16, 1 << 8,
            0x2AAAAAAB, 0x12492493, -(1 << 16), -(1 << 8)};
    }

    Story reading(String... lines) {
        Story story = this;
        for (String line : lines) {
            Probe.due(line + " is read", story.ask(x -> x.line(line)) > 0, true);
            story = story.then(x -> x.line(line));
        }
        return story;
    }

    Story then(Call call) {
        List<Call> longer = new ArrayList<>(calls);
        longer.add(call);
        return new Story(longer);
    }

    Story compiled() {
        return then(Probe::compile);
    }

    private Probe told() {
        Probe x = new Probe();
        for (Call call : calls) {
            call.on(x);
        }
        return x;
    }

    int ask(Call question) {
        return question.on(told());
    }

    String trace(int configuration, int event) {
        return told().trace(configuration, event);
    }

    /** All that the object shows: the line, the names, the table and its run, and what compiling comes to. */
    private Map<String, String> picture() {
        if (picture == null) {
            Map<String, String> shown = new LinkedHashMap<>();
            line(shown);
            table("", shown);
            compiled().table("compiled: ", shown);
            picture = shown;
        }
        return picture;
    }

    private void show(Map<String, String> shown, String what, Call question) {
        shown.put(what, String.valueOf(ask(question)));
    }

    private void line(Map<String, String> shown) {
        show(shown, "room in the line", Story::room);
        show(shown, "the line as a name", Probe::named);
        show(shown, "the line", Probe::line);
        then(Probe::line).run("behind the line: ", shown);
        for (String name : NAMES) {
            show(shown, "named " + name, x -> {
                x.named();
                return x.named(name);
            });
        }
    }

    private static int room(Probe x) {
        int room = 0;
        while (x.write(' ')) {
            room++;
        }
        return room;
    }

    private void table(String when, Map<String, String> shown) {
        int size = ask(Probe::configurations);
        int states = ask(x -> x.count(0));
        int events = ask(x -> x.count(2));
        shown.put(when + "states", String.valueOf(states));
        shown.put(when + "events", String.valueOf(events));
        show(shown, when + "rules", x -> x.count(1));
        run(when, shown);
        for (int event = -1; event <= events; event++) {
            int given = event;
            show(shown, when + "event " + given, x -> x.event(given));
            then(x -> x.event(given)).run(when + "behind event " + given + ": ", shown);
        }
        for (int configuration = -1; configuration <= size; configuration++) {
            cells(when + "at " + configuration + ": ", shown, configuration, events);
            places(when + "at " + configuration + ": ", shown, configuration, states);
        }
    }

    private void run(String when, Map<String, String> shown) {
        show(shown, when + "configurations", Probe::configurations);
        show(shown, when + "place", x -> x.count(3));
        show(shown, when + "noted", Probe::noted);
    }

    private void cells(String when, Map<String, String> shown, int at, int events) {
        for (int event = -1; event <= events; event++) {
            int given = event;
            show(shown, when + "next " + given, x -> x.next(at, given));
            shown.put(when + "trace " + given, trace(at, given));
        }
    }

    private void places(String when, Map<String, String> shown, int at, int states) {
        for (int state = -1; state <= states; state++) {
            int asked = state;
            show(shown, when + "active " + asked, x -> x.active(at, asked) ? 1 : 0);
            show(shown, when + "current " + asked, x -> x.current(at, asked));
        }
    }

    /** A call that is due to answer so, and to change nothing. */
    void unchangedBy(String what, Call call, int answer) {
        Probe.due(what, ask(call), answer);
        then(call).looksLike(this, what);
    }

    /** A line that is due to be refused so, and to change nothing; for stories that end with an empty line. */
    void refuses(String line, int answer) {
        unchangedBy("'" + line + "'", x -> x.line(line), answer);
    }

    /** All that this one shows is due to be what the other one shows. */
    void looksLike(Story other, String what) {
        Map<String, String> got = picture();
        Map<String, String> want = other.picture();
        Probe.due(what + ": how much it shows", got.size(), want.size());
        for (Map.Entry<String, String> entry : want.entrySet()) {
            String answer = got.getOrDefault(entry.getKey(), "nothing");
            Probe.due(what + ": then " + entry.getKey(), answer, entry.getValue());
        }
    }
}
