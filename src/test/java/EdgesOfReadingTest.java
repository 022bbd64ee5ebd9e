/** The boundary cases that promises 1, 2, 3 and 7 name: a new object, write, line and named. */
public final class EdgesOfReadingTest {
    public static void main(String[] args) {
        topAlone();
        everyCharacter();
        fiftyCharacters();
        refusedCharactersLeaveNothing();
        lineWithoutWords();
        namesThatAreNotThere();
        namesThatAreThereAlready();
        parentOfDepthSix();
        noLineComesBeforeNoRoom();
        noRoom();
        linesThatWereReadDropTheTable();
        theLineIsEmptyBehindReading();
        blanksBeforeAndBehindAName();
        theLineIsEmptyBehindANameAskedFor();
        noSuchName();
        Probe.end();
    }

    private static final String[] CHART = {"state a in top", "state b in top remember", "state c in b", "state d in b",
        "enter a x", "exit a yz", "enter c uvw", "on go from a to d do m", "on go from c to a", "on back from b to a"};

    private static Story chart() {
        return Story.of(CHART);
    }

    /** The chart compiled, and its run at another configuration than the first. */
    private static Story running() {
        return chart().compiled().then(x -> x.event(0));
    }

    private static int written(Probe x, String text) {
        x.writeAll(text);
        return text.length();
    }

    private static void topAlone() {
        Probe.sentence("1: top alone, no rules, no table");
        Story made = Story.of();
        Probe.due("states", made.ask(x -> x.count(0)), 1);
        Probe.due("rules", made.ask(x -> x.count(1)), 0);
        Probe.due("events", made.ask(x -> x.count(2)), 0);
        Probe.due("place", made.ask(x -> x.count(3)), -1);
        Probe.due("configurations", made.ask(Probe::configurations), 0);
        Probe.due("noted", made.ask(Probe::noted), 0);
        Probe.due("top", made.ask(x -> x.named("top")), 0);
        Probe.due("another name", made.ask(x -> x.named("a")), Probe.ELEMENT);
        Probe.due("no name", made.ask(Probe::named), Probe.ELEMENT);
        Probe.due("the line", made.ask(Probe::line), 0);
        Probe.due("event", made.ask(x -> x.event(0)), Probe.STATE);
        Probe.due("next", made.ask(x -> x.next(0, 0)), Probe.ELEMENT);
        Probe.due("trace", made.ask(x -> x.trace(0, -1, 0)), -1);
        Probe.due("active", made.ask(x -> x.active(0, 0) ? 1 : 0), 0);
        Probe.due("current", made.ask(x -> x.current(0, 0)), -1);
        Probe.due("a rule needs a state", made.ask(x -> x.line("on e from top to top")), Probe.ARGUMENT);
        Probe.due("no marks for top", made.compiled().ask(Probe::noted), 0);
        Probe.due("one configuration", made.ask(Probe::compile), 1);
    }

    /** Refused ones take no room, so an object stands many of them. */
    private static void everyCharacter() {
        Probe.sentence("2: a character (32 .. 126)");
        Probe x = new Probe();
        for (int c = 0; c <= Character.MAX_VALUE; c++) {
            boolean good = c >= 32 && c <= 126;
            if (x.calls() == Probe.MOST_CALLS || good) {
                x = new Probe();
            }
            Probe.due("character " + c, x.write((char) c), good);
        }
    }

    private static void fiftyCharacters() {
        Probe.sentence("2: false when there are 50");
        for (char c : new char[] {' ', 'a', '~'}) {
            Story written = Story.of();
            for (int i = 0; i < 50; i++) {
                Probe.due("no. " + i, written.ask(x -> x.write(c) ? 1 : 0), 1);
                written = written.then(x -> x.write(c) ? 1 : 0);
            }
            for (char more : new char[] {' ', 'a', '~', 0, 127}) {
                written.unchangedBy("no. 50", x -> x.write(more) ? 1 : 0, 0);
            }
        }
        String text = " ".repeat(47) + "top";
        Probe.due("the 50th counts", Story.of().ask(x -> x.named(text)), 0);
        Probe.due("the 51st does not", Story.of().ask(x -> {
            x.writeAll(text);
            x.write('s');
            return x.named();
        }), 0);
    }

    private static void refusedCharactersLeaveNothing() {
        Probe.sentence("2: false when it is none such");
        String line = "state e in b whole";
        for (int c : new int[] {0, 9, 10, 31, 127, 128, 160, 255, 256, 256 + 32, 256 + 97, 65535}) {
            for (int at = 0; at <= line.length(); at++) {
                String before = line.substring(0, at);
                Story written = running().then(x -> written(x, before));
                Probe.due("character " + c, written.ask(x -> x.write((char) c) ? 1 : 0), 0);
                String behind = line.substring(at);
                Story refused = written.then(x -> x.write((char) c) ? 1 : 0);
                Probe.due("line with " + c + " at " + at, refused.ask(x -> x.line(behind)), 1);
            }
            running().then(x -> written(x, line)).unchangedBy("character " + c, x -> x.write((char) c) ? 1 : 0, 0);
        }
    }

    private static void lineWithoutWords() {
        Probe.sentence("3: 0 it has no words");
        for (Story story : new Story[] {Story.of(), chart(), chart().compiled(), running()}) {
            for (int blanks : new int[] {0, 1, 2, 49, 50}) {
                story.unchangedBy(blanks + " blanks", x -> x.line(" ".repeat(blanks)), 0);
            }
            Probe.due("a word", story.ask(x -> x.line(" ".repeat(49) + "a")), Probe.ARGUMENT);
            Probe.due("no blank", story.ask(x -> x.line("!")), Probe.ARGUMENT);
        }
    }

    private static void namesThatAreNotThere() {
        Probe.sentence("3: IllegalArgumentException for a name that is not there");
        String[] shapes = {"state f in ?", "state f in ? whole", "enter ? x", "exit ? x", "on go from ? to a",
            "on go from a to ?", "on go from a to b if ?", "on go from a to b unless ?", "on e from ? to ? if ? do x"};
        for (String shape : shapes) {
            for (String name : new String[] {"b", "c", "d"}) {
                Probe.due(shape + " " + name, running().ask(x -> x.line(shape.replace("?", name))) > 0, true);
            }
            for (String name : new String[] {"e", "z", "go", "back", "aa", "ab", "to", "zzzz"}) {
                chart().refuses(shape.replace("?", name), Probe.ARGUMENT);
                running().refuses(shape.replace("?", name), Probe.ARGUMENT);
            }
        }
        running().refuses("state f in f", Probe.ARGUMENT);
    }

    private static void namesThatAreThereAlready() {
        Probe.sentence("3: IllegalArgumentException for a name that is there already");
        for (String name : new String[] {"top", "a", "b", "c", "d"}) {
            for (String behind : new String[] {" in top", " in a", " in d whole", " in b remember", " in " + name}) {
                chart().refuses("state " + name + behind, Probe.ARGUMENT);
                running().refuses("state " + name + behind, Probe.ARGUMENT);
            }
        }
        for (String name : new String[] {"e", "go", "back", "aa", "to", "topp"}) {
            Probe.due("state " + name, running().ask(x -> x.line("state " + name + " in top")), 1);
        }
    }

    private static final String[] DEEP = {"state a in top", "state b in a", "state c in b", "state d in c",
        "state e in d", "state f in e", "state g in e"};

    private static void parentOfDepthSix() {
        Probe.sentence("3: IllegalArgumentException for a parent of depth 6");
        for (String parent : new String[] {"f", "g"}) {
            for (String behind : new String[] {"", " whole", " remember"}) {
                Story.of(DEEP).refuses("state h in " + parent + behind, Probe.ARGUMENT);
                Story.of(DEEP).compiled().refuses("state h in " + parent + behind, Probe.ARGUMENT);
            }
        }
        for (String parent : new String[] {"top", "a", "b", "c", "d", "e"}) {
            Probe.due("in " + parent, Story.of(DEEP).ask(x -> x.line("state h in " + parent)), 1);
        }
    }

    private static final String[] FULL_OF_STATES = {"state a in top", "state b in a", "state c in b", "state d in c",
        "state e in d", "state f in e", "state g in e", "state h in top", "state i in top", "state j in top",
        "state k in top", "state l in top", "state m in top"};

    private static Story fullOfRules() {
        Story story = Story.of("state a in top", "enter a abc", "enter a def");
        for (int i = 0; i < 20; i++) {
            story = story.reading("on " + (char) ('a' + i % 6) + " from a to a");
        }
        return story;
    }

    private static Story fullOfEvents() {
        return Story.of("state a in top", "state b in top", "exit b abc", "exit b def", "on a from a to b",
                "on b from a to b", "on c from a to b", "on d from a to b", "on e from a to b", "on f from b to a");
    }

    private static void noLineComesBeforeNoRoom() {
        Probe.sentence("3: IllegalStateException when it is a line");
        for (String line : new String[] {"state n in f", "state n in n", "state m in top", "state top in top",
            "state n in top whole x", "state abcde in top", "state n on top", "state n in"}) {
            Story.of(FULL_OF_STATES).compiled().refuses(line, Probe.ARGUMENT);
        }
        for (String line : new String[] {"on e from a to top", "on e from a to b", "on z from z to a",
            "on z from a to a x", "on e from a to a do", "on abcde from a to a", "on z from a to a if z",
            "enter a abcd", "enter a"}) {
            fullOfRules().refuses(line, Probe.ARGUMENT);
        }
        for (String line : new String[] {"on g from a to top", "on g from a to c", "on g from a to b if c",
            "on g from a to b do wxyz", "exit b abcd", "exit b a b", "exit b A"}) {
            fullOfEvents().compiled().refuses(line, Probe.ARGUMENT);
        }
    }

    private static void noRoom() {
        Probe.sentence("3: IllegalStateException when there is no room");
        for (Story story : new Story[] {Story.of(FULL_OF_STATES), Story.of(FULL_OF_STATES).compiled()}) {
            story.refuses("state n in top", Probe.STATE);
            story.refuses("  state  zzzz  in  e  remember  ", Probe.STATE);
        }
        for (Story story : new Story[] {fullOfRules(), fullOfRules().compiled().then(x -> x.event(5))}) {
            story.refuses("on e from a to a", Probe.STATE);
            story.refuses("on z from a to a do x", Probe.STATE);
            story.refuses("enter a a", Probe.STATE);
        }
        for (Story story : new Story[] {fullOfEvents(), fullOfEvents().compiled().then(x -> x.event(5))}) {
            story.refuses("on g from a to b", Probe.STATE);
            story.refuses("on ff from a to b unless a do xyz", Probe.STATE);
            story.refuses("exit b a", Probe.STATE);
            Probe.due("not another event", story.ask(x -> x.line("on f from a to b")), 3);
        }
    }

    private static void linesThatWereReadDropTheTable() {
        Probe.sentence("3: a line with words that was read drops the table");
        for (String line : new String[] {"state f in top", "state f in a whole", "enter a x", "exit top x",
            "on go from a to a", "on new from b to a if c do x"}) {
            Story behind = running().then(x -> x.line(line));
            behind.looksLike(chart().then(x -> x.line(line)), line);
            Probe.due(line + ": configurations", behind.ask(Probe::configurations), 0);
            Probe.due(line + ": place", behind.ask(x -> x.count(3)), -1);
            Probe.due(line + ": noted", behind.ask(Probe::noted), 0);
            Probe.due(line + ": event", behind.ask(x -> x.event(0)), Probe.STATE);
            Probe.due(line + ": next", behind.ask(x -> x.next(0, 0)), Probe.ELEMENT);
            Probe.due(line + ": trace", behind.ask(x -> x.trace(0, -1, 0)), -1);
            Probe.due(line + ": active", behind.ask(x -> x.active(0, 0) ? 1 : 0), 0);
            Probe.due(line + ": current", behind.ask(x -> x.current(0, 0)), -1);
        }
        running().unchangedBy("writing alone", x -> {
            x.writeAll("state f in top");
            return x.named();
        }, Probe.ELEMENT);
    }

    private static void theLineIsEmptyBehindReading() {
        Probe.sentence("3: it is empty then");
        String[] lines = {"", "   ", "state f in top", "exit a x", "on go from a to b", "state a in top", "nothing",
            "x".repeat(50), "enter a abcd", "enter c xyzuvw"};
        for (String line : lines) {
            Story behind = running().then(x -> x.line(line));
            emptyLine(behind, "'" + line + "'");
        }
        emptyLine(Story.of(FULL_OF_STATES).then(x -> x.line("state n in top")), "no room for a state");
        emptyLine(fullOfRules().then(x -> x.line("on a from a to a")), "no room for a rule");
        emptyLine(fullOfEvents().then(x -> x.line("on g from a to b")), "no room for an event");
        emptyLine(fullOfEvents().then(x -> x.line("exit b a")), "no room for marks");
    }

    private static void emptyLine(Story story, String what) {
        Probe.due(what + ": no words then", story.ask(Probe::line), 0);
        Probe.due(what + ": a name then", story.ask(x -> x.named("top")), 0);
        Probe.due(what + ": fifty then", story.ask(x -> {
            x.writeAll(" ".repeat(50));
            return x.write(' ') ? 1 : 0;
        }), 0);
    }

    private static void blanksBeforeAndBehindAName() {
        Probe.sentence("7: blanks before and behind do not count");
        String[] names = {"top", "a", "b", "c", "d"};
        for (int number = 0; number < names.length; number++) {
            String name = names[number];
            int room = 50 - name.length();
            for (int before : new int[] {0, 1, 2, room - 1, room}) {
                for (int behind : new int[] {0, 1, room - before}) {
                    String text = " ".repeat(before) + name + " ".repeat(Math.min(behind, room - before));
                    running().unchangedBy("'" + text + "'", x -> x.named(text), number);
                }
            }
        }
        for (String text : new String[] {"t op", "to p", "a b", "a a", "a  top", " t o p "}) {
            running().unchangedBy("'" + text + "'", x -> x.named(text), Probe.ELEMENT);
        }
    }

    private static void theLineIsEmptyBehindANameAskedFor() {
        Probe.sentence("7: which is empty then");
        for (String text : new String[] {"", " ", "a", "  top ", "z", "abcde", "a b", "x".repeat(50),
            "state f in top"}) {
            emptyLine(running().then(x -> x.named(text)), "'" + text + "'");
            running().then(x -> x.named(text)).looksLike(running(), "'" + text + "'");
        }
    }

    private static void noSuchName() {
        Probe.sentence("7: NoSuchElementException when there is none");
        String[] none = {"", " ", "   ", "e", "aa", "ab", "aaaa", "aaaaa", "zzzz", "A", "TOP", "Top", "to", "topp",
            "tpo", "a.", "`", "{", "a{", "0", "1", "-1", "go", "back", "state", "x".repeat(50), " ".repeat(50)};
        for (String text : none) {
            running().unchangedBy("'" + text + "'", x -> x.named(text), Probe.ELEMENT);
            Story.of().unchangedBy("'" + text + "'", x -> x.named(text), Probe.ELEMENT);
        }
        Probe.due("the last state there is", Story.of(FULL_OF_STATES).ask(x -> x.named("m")), 13);
        Probe.due("a refused one", Story.of(FULL_OF_STATES).then(x -> x.line("state n in top")).ask(
                x -> x.named("n")), Probe.ELEMENT);
    }
}
