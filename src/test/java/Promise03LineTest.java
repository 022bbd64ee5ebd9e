/** Promise 3: lines are read, refused when they are none, and refused when there is no room. */
public final class Promise03LineTest {
    public static void main(String[] args) {
        noWords();
        stateLines();
        stateLinesThatAreNone();
        markLines();
        marksAtMostSix();
        ruleLines();
        ruleLinesThatAreNone();
        keywordsAsNames();
        depthSix();
        fourteenStates();
        twentyRules();
        sixEvents();
        droppingTheTable();
        Probe.end();
    }

    private static void noWords() {
        Probe x = new Probe();
        Probe.due("nothing", x.line(), 0);
        Probe.due("a blank", x.line(" "), 0);
        Probe.due("blanks", x.line("     "), 0);
    }

    private static void stateLines() {
        Probe x = new Probe();
        Probe.due("plain", x.line("state a in top"), 1);
        Probe.due("whole", x.line("state bc in a whole"), 1);
        Probe.due("remember", x.line("state def in a remember"), 1);
        Probe.due("four letters", x.line("state zzzz in def"), 1);
        Probe.due("blanks all over", x.line("   state   g   in  bc   whole   "), 1);
        Probe.due("states", x.count(0), 6);
        Probe.due("number of zzzz", x.named("zzzz"), 4);
        Probe.due("number of g", x.named("g"), 5);
    }

    private static void stateLinesThatAreNone() {
        String[] lines = {
            "state", "state b", "state b in", "state in top", "b in top", "state b top", "state b on top",
            "state b in c", "state a in top", "state top in a", "state abcde in top", "state b in abcde",
            "state B in top", "state b1 in top", "state b in Top", "State b in top", "state b in top hole",
            "state b in top wholes", "state b in top whole x", "state b in top whole remember", "state b in top b",
            "states b in top", "stat b in top", "state b. in top", "state - in top", "stateb in top", "state b in topa",
        };
        for (String line : lines) {
            Probe x = Probe.of("state a in top");
            Probe.due(line, x.line(line), Probe.ARGUMENT);
            Probe.due(line + ": states", x.count(0), 2);
            Probe.due(line + ": the line is empty", x.line(), 0);
        }
    }

    private static void markLines() {
        Probe x = Probe.of("state a in top");
        Probe.due("enter", x.line("enter a x"), 2);
        Probe.due("exit", x.line("exit a xyz"), 2);
        Probe.due("enter top", x.line(" enter  top ab "), 2);
        Probe.due("exit top", x.line("exit top ab"), 2);
        String[] lines = {
            "enter", "enter a", "enter b x", "enter a wxyz", "enter a X", "enter a x y", "enter x", "exit", "exit a",
            "exit b x", "exit a wxyz", "exit a 1", "exit a x y", "leave a x", "entera x", "enter abcde x",
        };
        for (String line : lines) {
            Probe.due(line, x.line(line), Probe.ARGUMENT);
        }
        x.compile();
        Probe.due("refused marks are not there", x.trace(0, -1), "abx");
    }

    private static void marksAtMostSix() {
        Probe x = Probe.of("state a in top", "enter a abc", "enter a de");
        Probe.due("seven", x.line("enter a xy"), Probe.STATE);
        Probe.due("the line is empty", x.line(), 0);
        Probe.due("six", x.line("enter a f"), 2);
        Probe.due("another one", x.line("enter a g"), Probe.STATE);
        Probe.due("exit has its own six", x.line("exit a uvw"), 2);
        Probe.due("exit six", x.line("exit a xyz"), 2);
        Probe.due("exit seven", x.line("exit a o"), Probe.STATE);
        Probe.due("another state has its own six", x.line("enter top m"), 2);
        Probe.due("no line comes before no room", x.line("enter a wxyz"), Probe.ARGUMENT);
        Probe.due("event for the exit", x.line("on e from a to a"), 3);
        x.compile();
        Probe.due("entering, in order", x.trace(0, -1), "mabcdef");
        Probe.due("leaving, in order", x.trace(0, 0), "uvwxyzabcdef");
    }

    private static void ruleLines() {
        Probe x = Probe.of("state a in top", "state b in top");
        Probe.due("plain", x.line("on e from a to b"), 3);
        Probe.due("if", x.line("on e from a to b if b"), 3);
        Probe.due("unless", x.line("on f from b to b unless a"), 3);
        Probe.due("do", x.line("on e from a to a do x"), 3);
        Probe.due("if do", x.line("on g from a to b if a do xyz"), 3);
        Probe.due("unless do", x.line("  on  g from a to b   unless top do xy "), 3);
        Probe.due("if top", x.line("on a from a to b if top"), 3);
        Probe.due("rules", x.count(1), 7);
        Probe.due("events", x.count(2), 4);
    }

    private static void ruleLinesThatAreNone() {
        String[] lines = {
            "on", "on e", "on e from", "on e from a", "on e from a to", "on e from a b", "on from a to b",
            "on e to a from b", "on e from a to c", "on e from c to a", "on e from top to a", "on e from a to top",
            "on abcde from a to b", "on E from a to b", "on e from a to b c", "on e from a to b if",
            "on e from a to b if c", "on e from a to b when a", "on e from a to b unless", "on e from a to b unless c",
            "on e from a to b do", "on e from a to b do wxyz", "on e from a to b do X", "on e from a to b do x y",
            "on e from a to b if a do", "on e from a to b if a x", "on e from a to b do x if a",
            "on e from a to b if a unless b", "on e from a to b if a if b", "on e from a to b if a do x y",
            "on e from a to b do x do y", "one from a to b", "on e form a to b", "on e from a too b",
            "on e from a to b unless b do x do", "on e from a to b if A", "a b c d e f g h i j k l m n o p q r s t u",
            "a a a a a a a a a a a a a a a a a a a a a a a a a",
        };
        for (String line : lines) {
            Probe x = Probe.of("state a in top", "state b in top");
            Probe.due(line, x.line(line), Probe.ARGUMENT);
            Probe.due(line + ": rules", x.count(1), 0);
            Probe.due(line + ": events", x.count(2), 0);
            Probe.due(line + ": the line is empty", x.line(), 0);
        }
    }

    private static void keywordsAsNames() {
        Probe x = new Probe();
        Probe.due("in", x.line("state in in top"), 1);
        Probe.due("to", x.line("state to in in"), 1);
        Probe.due("if", x.line("state if in in"), 1);
        Probe.due("do", x.line("state do in if"), 1);
        Probe.due("from", x.line("state from in do"), 1);
        Probe.due("rule", x.line("on on from from to to if if do do"), 3);
        Probe.due("condition on do", x.line("on exit from do to if if do"), 3);
        Probe.due("marks", x.line("enter do do"), 2);
        Probe.due("events have names of their own", x.line("on in from in to in"), 3);
        Probe.due("an event's name for a state", x.line("state on in top"), 1);
        Probe.due("an event top", x.line("on top from in to in"), 3);
    }

    private static void depthSix() {
        Probe x = Probe.of("state a in top", "state b in a", "state c in b", "state d in c", "state e in d");
        Probe.due("depth 6", x.line("state f in e"), 1);
        Probe.due("parent of depth 6", x.line("state g in f"), Probe.ARGUMENT);
        Probe.due("states", x.count(0), 7);
        Probe.due("another of depth 6", x.line("state g in e"), 1);
        Probe.due("parent of depth 6 again", x.line("state h in g"), Probe.ARGUMENT);
    }

    private static void fourteenStates() {
        Probe x = Probe.of("state a in top", "state b in a", "state c in b", "state d in c", "state e in d",
                "state f in e");
        for (char name = 'g'; name <= 'l'; name++) {
            Probe.due("state " + name, x.line("state " + name + " in top"), 1);
        }
        Probe.due("the 14th", x.line("state m in top"), 1);
        Probe.due("the 15th", x.line("state n in top"), Probe.STATE);
        Probe.due("the line is empty", x.line(), 0);
        Probe.due("states", x.count(0), 14);
        Probe.due("number of m", x.named("m"), 13);
        Probe.due("name there already", x.line("state m in top"), Probe.ARGUMENT);
        Probe.due("parent not there", x.line("state n in n"), Probe.ARGUMENT);
        Probe.due("parent of depth 6", x.line("state n in f"), Probe.ARGUMENT);
        Probe.due("the 15th is not there", x.named("n"), Probe.ELEMENT);
        Probe.due("marks still", x.line("enter m x"), 2);
    }

    private static void twentyRules() {
        Probe x = Probe.of("state a in top");
        for (int i = 0; i < 20; i++) {
            Probe.due("rule " + i, x.line("on e from a to a"), 3);
        }
        Probe.due("the 21st", x.line("on e from a to a"), Probe.STATE);
        Probe.due("the 21st with an event of its own", x.line("on f from a to a"), Probe.STATE);
        Probe.due("the line is empty", x.line(), 0);
        Probe.due("rules", x.count(1), 20);
        Probe.due("events", x.count(2), 1);
        Probe.due("no line comes first", x.line("on e from a to b"), Probe.ARGUMENT);
    }

    private static void sixEvents() {
        Probe x = Probe.of("state a in top");
        for (char name = 'a'; name <= 'f'; name++) {
            Probe.due("event " + name, x.line("on " + name + " from a to a"), 3);
        }
        Probe.due("the 7th event", x.line("on g from a to a"), Probe.STATE);
        Probe.due("the line is empty", x.line(), 0);
        Probe.due("events", x.count(2), 6);
        Probe.due("rules", x.count(1), 6);
        Probe.due("an event that is there", x.line("on c from a to a"), 3);
        Probe.due("the first", x.line("on a from a to a"), 3);
        Probe.due("no line comes first", x.line("on g from a to b"), Probe.ARGUMENT);
        Probe.due("rules then", x.count(1), 8);
        Probe.due("compiled", x.compile(), 1);
        Probe.due("next for the last event", x.next(0, 5), 0);
    }

    private static void droppingTheTable() {
        Probe x = Probe.of("state a in top", "enter a x");
        Probe.due("compiled", x.compile(), 1);
        Probe.due("a line without words", x.line("  "), 0);
        Probe.due("keeps the table", x.configurations(), 1);
        Probe.due("what is no line", x.line("state a in top"), Probe.ARGUMENT);
        Probe.due("is not read, and keeps it", x.configurations(), 1);
        Probe.due("marks", x.line("exit a x"), 2);
        Probe.due("drop it", x.configurations(), 0);
        Probe.due("place", x.count(3), -1);
        Probe.due("noted", x.noted(), 0);
        Probe.due("active", x.active(0, 0), false);
        Probe.due("current", x.current(0, 0), -1);
        Probe.due("trace", x.trace(0, -1, 0), -1);
        Probe.due("event", x.event(0), Probe.STATE);
        x.compile();
        Probe.due("a state", x.line("state b in top"), 1);
        Probe.due("drops it", x.configurations(), 0);
        x.compile();
        Probe.due("a rule", x.line("on e from a to b"), 3);
        Probe.due("drops it too", x.configurations(), 0);
        Probe.due("next", x.next(0, 0), Probe.ELEMENT);
        Probe.due("compiled again", x.compile(), 2);
        Probe.due("no room", fullOfMarks(x), Probe.STATE);
    }

    private static int fullOfMarks(Probe x) {
        x.line("enter b abc");
        x.line("enter b abc");
        x.compile();
        int answer = x.line("enter b a");
        Probe.due("a refused line keeps the table", x.configurations(), 2);
        return answer;
    }
}
