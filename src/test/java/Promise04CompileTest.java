/** Promise 4: compiling numbers the configurations in order, at most 30 of them. */
public final class Promise04CompileTest {
    public static void main(String[] args) {
        topAlone();
        orderOfNumbers();
        runStartsAnew();
        onlyWhatComesAbout();
        notActiveOnesCount();
        thirtyAndMore();
        Probe.end();
    }

    private static void topAlone() {
        Probe x = new Probe();
        Probe.due("top alone", x.compile(), 1);
        Probe.due("place", x.count(3), 0);
        Probe.due("again", x.compile(), 1);
    }

    /** Configuration 0 goes to d by event 0 and to c by event 1: d is number 1 though it was made later. */
    private static void orderOfNumbers() {
        Probe x = Probe.of("state a in top", "state b in top", "state c in top", "state d in top",
                "on e from a to d", "on f from a to c", "on e from d to b", "on f from c to a");
        Probe.due("compiled", x.compile(), 4);
        Probe.due("current 0", x.current(0, 0), 1);
        Probe.due("current 1", x.current(1, 0), 4);
        Probe.due("current 2", x.current(2, 0), 3);
        Probe.due("current 3", x.current(3, 0), 2);
    }

    private static void runStartsAnew() {
        Probe x = Probe.of("state a in top", "state b in top", "enter b xy", "enter a z", "on e from a to b");
        Probe.due("compiled", x.compile(), 2);
        Probe.due("event", x.event(0), 1);
        Probe.due("noted", x.noted(), 3);
        Probe.due("compiled again", x.compile(), 2);
        Probe.due("at 0 again", x.count(3), 0);
        Probe.due("noted again", x.noted(), 1);
    }

    private static void onlyWhatComesAbout() {
        Probe x = Probe.of("state a in top", "state b in top", "state c in top", "on e from b to c");
        Probe.due("b is never reached", x.compile(), 1);
    }

    /** What the state that is not active remembers makes configurations different. */
    private static void notActiveOnesCount() {
        String[] lines = {"state p in top", "state a in p", "state b in p", "state z in top",
            "on n from a to b", "on s from p to z"};
        Probe x = Probe.of(lines);
        Probe.due("forgetting", x.compile(), 3);
        lines[0] = "state p in top remember";
        Probe y = Probe.of(lines);
        Probe.due("remembering", y.compile(), 4);
    }

    /** Two remembering rows of 5 and 3 within w, left for z and come back to: 15 with w, 15 with z. */
    private static void thirtyAndMore() {
        Probe x = Probe.of("state w in top whole", "state p in w remember", "state q in w remember", "state a in p",
                "state b in p", "state c in p", "state d in p", "state e in p", "state f in q", "state g in q",
                "state h in q", "state z in top", "on n from a to b", "on n from b to c", "on n from c to d",
                "on n from d to e", "on m from f to g", "on m from g to h", "on s from w to z", "on s from z to w");
        Probe.due("thirty", x.compile(), 30);
        Probe.due("configurations", x.configurations(), 30);
        Probe.due("next of the last", x.next(29, 2) >= 0, true);
        Probe.due("no 31st", x.next(30, 0), Probe.ELEMENT);
        Probe.due("state y", x.line("state y in top"), 1);
        Probe.due("a rule for just one more", x.line("on t from a to y if f"), 3);
        Probe.due("thirty-one", x.compile(), Probe.STATE);
        Probe.due("no table", x.configurations(), 0);
        Probe.due("no place", x.count(3), -1);
        Probe.due("nothing noted", x.noted(), 0);
        Probe.due("not active", x.active(0, 0), false);
        Probe.due("no event", x.event(0), Probe.STATE);
        Probe.due("no next", x.next(0, 0), Probe.ELEMENT);
        Probe.due("no trace", x.trace(0, -1, 0), -1);
        Probe.due("once more", x.compile(), Probe.STATE);
    }
}
