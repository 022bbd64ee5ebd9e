/** The limits that the Terms name: each at the last value that is allowed, and at the first that is not. */
public final class EdgesOfTermsTest {
    public static void main(String[] args) {
        statesAtMostFourteen();
        fourteenSideBySide();
        depthAtMostSix();
        linesOfFiftyCharacters();
        oneOrMoreBlanksBetween();
        namesOfOneToFourLetters();
        wordsThatAreNoNames();
        marksOfOneToThreeLetters();
        wordsThatAreNoMarks();
        marksAtMostSix();
        eventsAtMostSix();
        eventsHaveNamesOfTheirOwn();
        neitherFromNorToTop();
        rulesAtMostTwenty();
        stateWithoutChildren();
        traceOfStartingAtMostForty();
        traceOfAnEventAtMostForty();
        traceCutWithinTheRulesMarks();
        thirtyConfigurations();
        Probe.end();
    }

    /** A run at its second configuration, with marks noted, on a chart that has a bit of everything. */
    private static Story running() {
        return Story.of("state a in top", "state b in top", "enter a x", "exit a y", "enter b z",
                "on go from a to b do m", "on go from b to a").compiled().then(x -> x.event(0));
    }

    private static String[] statesInTop(int many) {
        String[] lines = new String[many];
        for (int i = 0; i < many; i++) {
            lines[i] = "state " + (char) ('a' + i) + " in top";
        }
        return lines;
    }

    private static void statesAtMostFourteen() {
        Probe.sentence("states: at most 14");
        Story eleven = Story.of(statesInTop(10));
        Story thirteen = Story.of(statesInTop(12));
        Probe.due("states", thirteen.ask(x -> x.count(0)), 13);
        Probe.due("the 14th", thirteen.ask(x -> x.line("state m in l")), 1);
        Probe.due("the 14th, whole", thirteen.ask(x -> x.line("state m in top whole")), 1);
        Probe.due("the 14th, remembering", thirteen.ask(x -> x.line("state m in top remember")), 1);
        Story full = thirteen.reading("state m in l");
        Story compiled = full.compiled();
        Probe.due("states then", full.ask(x -> x.count(0)), 14);
        Probe.due("the 14th is number 13", full.ask(x -> x.named("m")), 13);
        Probe.due("it is a child", compiled.ask(x -> x.current(0, 12)), 13);
        String[] lines = {"state n in top", "state n in m", "state n in a whole", "state n in l remember"};
        for (String line : lines) {
            Probe.due("as the 14th: " + line, eleven.reading("state m in a", "state l in a").ask(x -> x.line(line)), 1);
            full.refuses(line, Probe.STATE);
            compiled.refuses(line, Probe.STATE);
        }
    }

    private static void fourteenSideBySide() {
        Probe.sentence("states: at most 14, side by side");
        Story story = Story.of("state w in top whole");
        for (char name = 'a'; name <= 'l'; name++) {
            story = story.reading("state " + name + " in w");
        }
        story = story.reading("enter w w", "enter a a", "enter l l").compiled();
        Probe.due("starting", story.trace(0, -1), "wal");
        for (int state = 0; state < 14; state++) {
            int asked = state;
            Probe.due("active " + state, story.ask(x -> x.active(0, asked) ? 1 : 0), 1);
        }
        Probe.due("active 14", story.ask(x -> x.active(0, 14) ? 1 : 0), 0);
        story.refuses("state n in w", Probe.STATE);
    }

    private static void depthAtMostSix() {
        Probe.sentence("depth: at most 6");
        for (String behind : new String[] {"", " whole", " remember"}) {
            Story five = Story.of("state a in top" + behind, "state b in a" + behind, "state c in b" + behind,
                    "state d in c" + behind, "state e in d" + behind);
            Probe.due("depth 6", five.ask(x -> x.line("state f in e")), 1);
            Story six = five.reading("state f in e" + behind, "enter f x", "exit f y", "on go from f to f do z");
            Story compiled = six.compiled();
            Probe.due("depth 6 is active", compiled.ask(x -> x.active(0, 6) ? 1 : 0), 1);
            Probe.due("depth 6 is entered", compiled.trace(0, -1), "x");
            Probe.due("depth 6 is offered the event, left and entered", compiled.trace(0, 0), "yzx");
            for (String last : new String[] {"", " whole", " remember"}) {
                six.refuses("state g in f" + last, Probe.ARGUMENT);
                compiled.refuses("state g in f" + last, Probe.ARGUMENT);
            }
            Probe.due("another one of depth 6", six.ask(x -> x.line("state g in e")), 1);
            six.reading("state g in e").refuses("state h in g", Probe.ARGUMENT);
        }
    }

    private static void linesOfFiftyCharacters() {
        Probe.sentence("lines: at most 50 characters");
        String state = "state a in top";
        String rule = "on abcd from efgh to ijkl unless mnop do xyz";
        Story names = Story.of("state efgh in top", "state ijkl in top", "state mnop in top");
        for (int before = 0; before <= 50 - state.length(); before++) {
            String line = " ".repeat(before) + state + " ".repeat(50 - state.length() - before);
            Story written = Story.of().then(x -> written(x, line));
            written.unchangedBy("a 51st blank", x -> x.write(' ') ? 1 : 0, 0);
            written.unchangedBy("a 51st letter", x -> x.write('x') ? 1 : 0, 0);
            Probe.due("'" + line + "'", written.ask(Probe::line), 1);
        }
        for (int before = 0; before <= 50 - rule.length(); before++) {
            String line = " ".repeat(before) + rule + " ".repeat(50 - rule.length() - before);
            Probe.due("'" + line + "'", names.ask(x -> x.line(line)), 3);
        }
        Story.of().refuses("x".repeat(50), Probe.ARGUMENT);
        Story.of().refuses("state " + "x".repeat(44), Probe.ARGUMENT);
        Story.of().refuses("a ".repeat(25), Probe.ARGUMENT);
        Story.of().refuses(" a".repeat(25), Probe.ARGUMENT);
        Story.of().refuses(state + " whole" + " a".repeat(15), Probe.ARGUMENT);
    }

    private static int written(Probe x, String text) {
        x.writeAll(text);
        return 0;
    }

    private static void oneOrMoreBlanksBetween() {
        Probe.sentence("lines: words with one or more blanks between");
        String[] lines = {"state c in top whole", "enter a xyz", "exit top x", "on go from a to b if a do x",
            "on go from b to a unless top"};
        Story chart = Story.of("state a in top", "state b in top");
        for (String line : lines) {
            String[] words = line.split(" ");
            int kind = chart.ask(x -> x.line(line));
            Probe.due("'" + line + "'", kind > 0, true);
            for (int gap = 1; gap < words.length; gap++) {
                String spread = joined(words, gap, " ".repeat(51 - line.length()));
                Probe.due("length", spread.length(), 50);
                Probe.due("'" + spread + "'", chart.ask(x -> x.line(spread)), kind);
                chart.refuses(joined(words, gap, ""), Probe.ARGUMENT);
                for (String other : new String[] {"!", "~", "_", "-", ",", " ! "}) {
                    chart.refuses(joined(words, gap, other), Probe.ARGUMENT);
                }
            }
        }
    }

    /** The words with blanks between, but for one gap, where something else stands. */
    private static String joined(String[] words, int gap, String between) {
        StringBuilder text = new StringBuilder(words[0]);
        for (int i = 1; i < words.length; i++) {
            text.append(i == gap ? between : " ").append(words[i]);
        }
        return text.toString();
    }

    private static final String[] GOOD_NAMES = {"a", "z", "aa", "az", "za", "zz", "aaa", "zzz", "aaaa", "azaz", "zzzz"};

    private static void namesOfOneToFourLetters() {
        Probe.sentence("names: words of one to four letters a .. z");
        Story story = Story.of();
        for (String name : GOOD_NAMES) {
            Probe.due("not there yet: " + name, new Probe().named(name), Probe.ELEMENT);
            Story before = story;
            Probe.due("still not there: " + name, before.ask(x -> x.named(name)), Probe.ELEMENT);
            story = story.reading("state " + name + " in top");
        }
        for (int i = 0; i < GOOD_NAMES.length; i++) {
            String name = GOOD_NAMES[i];
            Probe.due("number of " + name, story.ask(x -> x.named(name)), i + 1);
            Probe.due("a child of " + name, story.ask(x -> x.line("state b in " + name)), 1);
            Probe.due("marks for " + name, story.ask(x -> x.line("enter " + name + " x")), 2);
            Probe.due("marks behind " + name, story.ask(x -> x.line("exit " + name + " x")), 2);
            Probe.due("a rule with " + name, story.ask(x -> x.line(
                    "on " + name + " from " + name + " to " + name + " if " + name)), 3);
            Probe.due("a rule unless " + name, story.ask(x -> x.line("on e from a to z unless " + name)), 3);
        }
    }

    /** 96 and 123 stand next to a and z, 64 and 91 next to A and Z. */
    private static final String[] BAD_WORDS = {"`", "{", "a`", "{a", "aa{", "`aa", "@", "[", "A", "Z", "aA", "0", "9",
        "a1", "-", "a-a", "_", "~", "!", "zzzzz", "aaaaa", "abcdefgh"};

    private static void wordsThatAreNoNames() {
        Probe.sentence("names: words of one to four letters a .. z, and no others");
        Story story = running();
        String[] shapes = {"state ? in top", "state c in ?", "enter ? x", "exit ? x", "on ? from a to b",
            "on go from ? to b", "on go from a to ?", "on go from a to b if ?", "on go from a to b unless ? do x"};
        for (String shape : shapes) {
            Probe.due("the shape " + shape, story.ask(x -> x.line(shape.replace("?",
                    shape.startsWith("state ?") ? "c" : "a"))) > 0, true);
            for (String word : BAD_WORDS) {
                story.refuses(shape.replace("?", word), Probe.ARGUMENT);
            }
            story.refuses(shape.replace("?", "").trim(), Probe.ARGUMENT);
            story.refuses(shape.replace("?", "a a"), Probe.ARGUMENT);
        }
        for (String word : BAD_WORDS) {
            story.unchangedBy("named '" + word + "'", x -> x.named(word), Probe.ELEMENT);
        }
    }

    private static final String[] MARK_SHAPES = {"enter a ?", "exit top ?", "on go from a to b do ?",
        "on go from a to b if b do ?", "on go from a to b unless top do ?"};

    private static void marksOfOneToThreeLetters() {
        Probe.sentence("marks: words of one to three letters a .. z");
        for (String marks : new String[] {"a", "z", "aa", "az", "zz", "aaa", "aza", "zzz"}) {
            for (String shape : MARK_SHAPES) {
                Probe.due(shape + " " + marks, running().ask(x -> x.line(shape.replace("?", marks))) > 0, true);
            }
            Story story = Story.of("state a in top", "enter a " + marks, "exit a " + marks,
                    "on go from a to a do " + marks).compiled();
            Probe.due("starting with " + marks, story.trace(0, -1), marks);
            Probe.due("going with " + marks, story.trace(0, 0), marks + marks + marks);
        }
    }

    private static void wordsThatAreNoMarks() {
        Probe.sentence("marks: words of one to three letters a .. z, and no others");
        Story story = running();
        for (String shape : MARK_SHAPES) {
            for (String word : BAD_WORDS) {
                story.refuses(shape.replace("?", word), Probe.ARGUMENT);
            }
            story.refuses(shape.replace("?", "aaaa"), Probe.ARGUMENT);
            story.refuses(shape.replace("?", "zzzz"), Probe.ARGUMENT);
            story.refuses(shape.replace("?", "").trim(), Probe.ARGUMENT);
            story.refuses(shape.replace("?", "a a"), Probe.ARGUMENT);
        }
    }

    private static void marksAtMostSix() {
        Probe.sentence("marks for a state: at most six in all for each");
        String[] states = statesInTop(12);
        states[11] = "state m in top";
        for (String name : new String[] {"top", "a", "m"}) {
            for (String kind : new String[] {"enter ", "exit "}) {
                marksAtMostSix(Story.of(states), kind + name + " ");
            }
        }
        Story both = Story.of("state a in top", "on e from a to a", "enter a abc", "enter a def", "exit a uvw",
                "exit a xyz", "enter top abc", "enter top def", "exit top abc", "exit top def");
        Probe.due("starting", both.compiled().trace(0, -1), "abcdefabcdef");
        Probe.due("six for leaving, six for entering", both.compiled().trace(0, 0), "uvwxyzabcdef");
        for (String line : new String[] {"enter a g", "exit a g", "enter top g", "exit top g", "enter a ghi"}) {
            both.refuses(line, Probe.STATE);
            both.compiled().then(x -> x.event(0)).refuses(line, Probe.STATE);
        }
    }

    /** Six by all ways to put words of one to three marks behind one another. */
    private static void marksAtMostSix(Story story, String line) {
        Story five = story.reading(line + "abc", line + "de");
        five.refuses(line + "fg", Probe.STATE);
        five.refuses(line + "fgh", Probe.STATE);
        Story four = story.reading(line + "abc", line + "d");
        Probe.due(line + "at four", four.ask(x -> x.line(line + "ef")), 2);
        four.refuses(line + "efg", Probe.STATE);
        Story six = five.reading(line + "f");
        six.refuses(line + "g", Probe.STATE);
        six.refuses(line + "ghi", Probe.STATE);
        six.looksLike(story.reading(line + "abc", line + "def"), line + "in two words");
        six.looksLike(story.reading(line + "a", line + "b", line + "c", line + "d", line + "e", line + "f"),
                line + "in six words");
    }

    private static Story sixEvents(String last) {
        return Story.of("state a in top", "state b in top", "on a from a to b", "on bb from a to b",
                "on c from a to b", "on d from a to b", "on e from a to b", last);
    }

    private static void eventsAtMostSix() {
        Probe.sentence("events: at most 6");
        Story six = sixEvents("on zzzz from a to b do x");
        Story compiled = six.compiled();
        Probe.due("events", six.ask(x -> x.count(2)), 6);
        Probe.due("the sixth is number 5", compiled.trace(0, 5), "x");
        Probe.due("it goes on", compiled.ask(x -> x.next(0, 5)), 1);
        Probe.due("it is run", compiled.ask(x -> x.event(5)), 1);
        for (String name : new String[] {"f", "b", "aa", "zzz", "top", "on"}) {
            six.refuses("on " + name + " from a to b", Probe.STATE);
            compiled.refuses("on " + name + " from a to b if a do x", Probe.STATE);
        }
        for (String name : new String[] {"a", "bb", "c", "d", "e", "zzzz"}) {
            Story seven = six.reading("on " + name + " from b to a");
            Probe.due("events with another rule for " + name, seven.ask(x -> x.count(2)), 6);
            Probe.due("rules with it", seven.ask(x -> x.count(1)), 7);
        }
        Story five = sixEvents("on a from b to a");
        Probe.due("five events", five.ask(x -> x.count(2)), 5);
        Probe.due("a sixth", five.ask(x -> x.line("on f from a to b")), 3);
    }

    private static void eventsHaveNamesOfTheirOwn() {
        Probe.sentence("events: they have names of their own");
        Story story = Story.of("state a in top", "on a from a to a", "on top from a to a", "on b from a to a",
                "state b in top");
        Probe.due("events", story.ask(x -> x.count(2)), 3);
        Probe.due("states", story.ask(x -> x.count(0)), 3);
        Probe.due("the state b", story.ask(x -> x.named("b")), 2);
        story.reading("on go from a to a").refuses("on b from a to go", Probe.ARGUMENT);
    }

    private static void neitherFromNorToTop() {
        Probe.sentence("N and T not top");
        Story story = running();
        String[] lines = {"on go from top to a", "on go from a to top", "on go from top to top",
            "on go from top to b if a do x", "on go from b to top unless a do x", "on new from a to top"};
        for (String line : lines) {
            story.refuses(line, Probe.ARGUMENT);
        }
        Probe.due("from 1 to 1", story.ask(x -> x.line("on go from a to a")), 3);
        Probe.due("if top", story.ask(x -> x.line("on go from a to b if top")), 3);
        Probe.due("unless top", story.ask(x -> x.line("on go from a to b unless top")), 3);
    }

    /** Nineteen rules are from b, which is not active at first, so the twentieth alone is seen at once. */
    private static void rulesAtMostTwenty() {
        Probe.sentence("at most 20 rules");
        Story nineteen = Story.of("state a in top", "state b in top");
        for (int i = 0; i < 19; i++) {
            nineteen = nineteen.reading("on e from b to b");
        }
        Probe.due("rules", nineteen.ask(x -> x.count(1)), 19);
        Probe.due("configurations", nineteen.compiled().ask(Probe::configurations), 1);
        Story twenty = nineteen.reading("on e from a to b do xyz");
        Story compiled = twenty.compiled();
        Probe.due("rules then", twenty.ask(x -> x.count(1)), 20);
        Probe.due("the 20th is taken", compiled.trace(0, 0), "xyz");
        Probe.due("where it goes", compiled.ask(x -> x.current(x.next(0, 0), 0)), 2);
        for (String line : new String[] {"on e from a to b", "on f from a to b", "on e from b to a if a do x"}) {
            twenty.refuses(line, Probe.STATE);
            compiled.then(x -> x.event(0)).refuses(line, Probe.STATE);
        }
        Probe.due("marks still", twenty.ask(x -> x.line("enter a x")), 2);
        Probe.due("states still", twenty.ask(x -> x.line("state c in top")), 1);
    }

    private static void stateWithoutChildren() {
        Probe.sentence("a state without children is just itself");
        for (String behind : new String[] {"", " whole", " remember"}) {
            Story story = Story.of("state a in top" + behind, "state b in top" + behind, "enter a x", "exit a y",
                    "enter b z", "on e from a to b do m", "on f from a to a").compiled();
            Probe.due("configurations", story.ask(Probe::configurations), 2);
            Probe.due("starting", story.trace(0, -1), "x");
            Probe.due("from a to b", story.trace(0, 0), "ymz");
            Probe.due("from a to a", story.trace(0, 1), "yx");
            Probe.due("b's rules are none", story.trace(1, 0), "");
            Probe.due("a has no current child", story.ask(x -> x.current(0, 1)), -1);
            Probe.due("b has no current child", story.ask(x -> x.current(1, 2)), -1);
        }
        Story top = Story.of("enter top x").compiled();
        Probe.due("top alone", top.trace(0, -1), "x");
        Probe.due("top's current child", top.ask(x -> x.current(0, 0)), -1);
        Probe.due("top is active", top.ask(x -> x.active(0, 0) ? 1 : 0), 1);
    }

    private static final String[] CHAIN = {"state a in top", "state b in a", "state c in b", "state d in c",
        "state e in d", "state f in e", "state z in top"};

    private static Story chainWithMarks(String kind) {
        Story story = Story.of(CHAIN);
        for (char name = 'a'; name <= 'f'; name++) {
            story = story.reading(kind + name + " abc", kind + name + " def");
        }
        return story;
    }

    /** The chain's 36 marks stand behind those of top. */
    private static void traceOfStartingAtMostForty() {
        Probe.sentence("the trace of starting: at most 40");
        Story chain = chainWithMarks("enter ");
        String marks = "abcdef".repeat(6);
        Story full = chain.reading("enter top uvw").compiled();
        Probe.due("39", full.trace(0, -1), "uvw" + marks);
        Probe.due("39 noted", full.ask(Probe::noted), 39);
        full = chain.reading("enter top uvw", "enter top x").compiled();
        Probe.due("40", full.trace(0, -1), "uvwx" + marks);
        Probe.due("the last one of 40", full.ask(x -> x.trace(0, -1, 39)), 'f');
        Probe.due("none behind 40", full.ask(x -> x.trace(0, -1, 40)), -1);
        Probe.due("40 noted", full.ask(Probe::noted), 40);
        full = chain.reading("enter top uvw", "enter top xy").compiled();
        Probe.due("41", full.trace(0, -1), "uvwxy" + marks.substring(0, 35));
        Probe.due("the last one of 41", full.ask(x -> x.trace(0, -1, 40)), -1);
        Probe.due("41 noted", full.ask(Probe::noted), 40);
        full = chain.reading("enter top uvw", "enter top xyz").compiled();
        Probe.due("42", full.trace(0, -1), "uvwxyz" + marks.substring(0, 34));
        Probe.due("42 noted", full.ask(Probe::noted), 40);
    }

    /** Leaving the chain notes 36 marks; what is done behind the 40th is done all the same. */
    private static void traceOfAnEventAtMostForty() {
        Probe.sentence("the trace of an event: at most 40");
        Story chain = chainWithMarks("exit ").reading("on go from f to z do uvw");
        String marks = "abcdef".repeat(6) + "uvw";
        String[] entering = {"", "x", "xy", "xyz"};
        for (String more : entering) {
            Story story = more.isEmpty() ? chain : chain.reading("enter z " + more);
            story = story.compiled();
            String want = marks + (more.isEmpty() ? "" : "x");
            Probe.due((39 + more.length()) + " marks", story.trace(0, 0), want);
            Probe.due("none behind them", story.ask(x -> x.trace(0, 0, want.length())), -1);
            Probe.due("noted", story.then(x -> x.event(0)).ask(Probe::noted), want.length());
            Probe.due("z is entered", story.ask(x -> x.current(x.next(0, 0), 0)), 7);
        }
        Probe.due("the last one of 40", chain.reading("enter z x").compiled().ask(x -> x.trace(0, 0, 39)), 'x');
    }

    /** Seven children of w are left with 39 marks in all, so that one of the rule's three is noted. */
    private static void traceCutWithinTheRulesMarks() {
        Probe.sentence("the trace of an event: at most 40, cut within a word");
        Story story = Story.of("state w in top whole", "state z in top", "enter z z", "on go from w to z do uvw");
        for (char name = 'a'; name <= 'g'; name++) {
            story = story.reading("state " + name + " in w", "exit " + name + " abc");
            story = name == 'a' ? story : story.reading("exit " + name + " def");
        }
        Probe.due("39 and one", story.compiled().trace(0, 0), "abcdef".repeat(6) + "abc" + "u");
        Probe.due("z is entered", story.compiled().ask(x -> x.current(x.next(0, 0), 0)), 2);
        story = story.reading("exit a d").compiled();
        Probe.due("40 and none", story.trace(0, 0), "abcdef".repeat(6) + "abcd");
        Probe.due("noted", story.then(x -> x.event(0)).ask(Probe::noted), 40);
        Probe.due("z is entered still", story.ask(x -> x.current(x.next(0, 0), 0)), 2);
    }

    /** Two remembering rows of 5 and 3 within w, left for z and come back to: 15 with w, 15 with z. */
    static final String[] THIRTY = {"state w in top whole", "state p in w remember", "state q in w remember",
        "state a in p", "state b in p", "state c in p", "state d in p", "state e in p", "state f in q",
        "state g in q", "state h in q", "state z in top", "on n from a to b", "on n from b to c",
        "on n from c to d", "on n from d to e", "on m from f to g", "on m from g to h", "on s from w to z",
        "on s from z to w"};

    /** The 31st comes about first of all, from the middle, or from the last pair that can be reached. */
    private static void thirtyConfigurations() {
        Probe.sentence("when a 31st configuration would get a number, there is no table");
        Story thirty = Story.of(THIRTY);
        Probe.due("thirty", thirty.ask(Probe::compile), 30);
        Probe.due("table", thirty.compiled().ask(Probe::configurations), 30);
        Story more = thirty.reading("state y in top");
        Probe.due("thirty still", more.ask(Probe::compile), 30);
        for (String rule : new String[] {"on t from a to y if f", "on t from c to y if g", "on t from e to y if h"}) {
            Story story = more.reading(rule);
            Probe.due(rule, story.ask(Probe::compile), Probe.STATE);
            story.compiled().looksLike(story, rule + ": no table, as before");
            Probe.due("no table", story.compiled().ask(Probe::configurations), 0);
        }
        Probe.due("one in another's stead", more.reading("on s from c to y if g").ask(Probe::compile), 30);
        Probe.due("a rule for none", more.reading("on t from y to a").ask(Probe::compile), 30);
    }
}
