/** Entering, leaving, offering, scopes and conditions, by traces that were worked out by hand. */
public final class TermsTest {
    public static void main(String[] args) {
        wholeInOrder();
        enteringForATargetInsideAWhole();
        enteringForATargetDownOneLine();
        rememberingAndForgetting();
        rememberingIsEachStatesOwn();
        targetOverridesWhatIsRemembered();
        targetOnOneSideLeavesTheOtherAsRemembered();
        ruleToItself();
        ruleToOwnChildAndToOwnParent();
        ruleBetweenSides();
        innerRulesFirst();
        rulesOfTheDeepestStates();
        sidesBothTakeRules();
        conditionsSeeWhatHappenedBefore();
        ruleOutOfASideEndsIt();
        scopeWithinTheSideDoesNotEndIt();
        wholesWithinWholes();
        wholeLooksAtItsOwnRulesLast();
        rulesOfStatesThatAreNotActive();
        firstRuleWhoseConditionHolds();
        childrenMadeLater();
        Probe.end();
    }

    private static final String[] SIDES = {"state w in top whole", "state p in w", "state q in w", "state a in p",
        "state b in p", "state c in q", "state d in q", "state z in top",
        "enter w iw", "enter p ip", "enter q iq", "enter a ia", "enter b ib", "enter c ic", "enter d id", "enter z iz"};

    private static Probe sides(String... more) {
        Probe x = Probe.of(SIDES);
        for (String line : more) {
            Probe.due(line, x.line(line), line.startsWith("on") ? 3 : 2);
        }
        return x;
    }

    private static void wholeInOrder() {
        Probe x = sides("exit w ow", "exit p op", "exit q oq", "exit a oa", "exit c oc", "on s from w to z do m");
        x.compile();
        Probe.due("starting", x.trace(0, -1), "iwipiaiqic");
        Probe.due("leaving", x.trace(0, 0), "ocoqoaopowmiz");
    }

    private static void enteringForATargetInsideAWhole() {
        Probe x = sides("on s from w to z", "on b from z to b", "on d from z to d", "on q from z to q");
        x.compile();
        Probe.due("for b", x.trace(1, 1), "iwipibiqic");
        Probe.due("for d", x.trace(1, 2), "iwipiaiqid");
        Probe.due("for q", x.trace(1, 3), "iwipiaiqic");
        int withD = x.next(1, 2);
        Probe.due("d is active", x.active(withD, 7), true);
        Probe.due("a is active", x.active(withD, 4), true);
        Probe.due("z is not", x.active(withD, 8), false);
    }

    private static void enteringForATargetDownOneLine() {
        Probe x = Probe.of("state z in top", "state a in top", "state b in a", "state c in a", "state d in c",
                "state e in c", "state f in e", "enter a a", "enter b b", "enter c c", "enter d d", "enter e e",
                "enter f f", "on g from z to e", "on h from z to a");
        Probe.due("compiled", x.compile(), 3);
        Probe.due("for e", x.trace(0, 0), "acef");
        Probe.due("for a", x.trace(0, 1), "ab");
        Probe.due("c is a's current one", x.current(1, 2), 4);
        Probe.due("e is c's current one", x.current(1, 4), 6);
    }

    private static final String[] MEMORY = {"state q in top", "state a in q", "state b in q", "state z in top",
        "enter a a", "enter b b", "on n from a to b", "on s from q to z", "on s from z to q"};

    private static void rememberingAndForgetting() {
        Probe x = Probe.of(MEMORY);
        x.compile();
        x.event(0);
        x.event(1);
        int at = x.count(3);
        Probe.due("forgotten while not active", x.current(at, 1), 2);
        Probe.due("entered anew", x.trace(at, 1), "a");
        String[] lines = MEMORY.clone();
        lines[0] = "state q in top remember";
        Probe y = Probe.of(lines);
        y.compile();
        y.event(0);
        y.event(1);
        at = y.count(3);
        Probe.due("remembered while not active", y.current(at, 1), 3);
        Probe.due("entered as it was", y.trace(at, 1), "b");
    }

    /** p remembers that c was current, but c itself forgets, and c's child f does not. */
    private static void rememberingIsEachStatesOwn() {
        Probe x = Probe.of("state p in top remember", "state a in p", "state c in p", "state d in c",
                "state f in c remember", "state g in f", "state h in f", "state z in top", "enter d d", "enter g g",
                "enter h h", "on n from a to h", "on s from p to z", "on s from z to p", "on r from z to f");
        x.compile();
        Probe.due("to h", x.trace(0, 0), "h");
        x.event(0);
        x.event(1);
        int at = x.count(3);
        Probe.due("p remembers c", x.current(at, 1), 3);
        Probe.due("c forgets f", x.current(at, 3), 4);
        Probe.due("f remembers h", x.current(at, 5), 7);
        Probe.due("back to p", x.trace(at, 1), "d");
        Probe.due("back to f", x.trace(at, 2), "h");
    }

    private static void targetOverridesWhatIsRemembered() {
        Probe x = Probe.of("state q in top remember", "state a in q", "state b in q", "state z in top", "enter a a",
                "enter b b", "on n from a to b", "on s from q to z", "on r from z to a", "on t from z to b");
        x.compile();
        x.event(0);
        x.event(1);
        int at = x.count(3);
        Probe.due("to a", x.trace(at, 2), "a");
        Probe.due("a is current then", x.current(x.next(at, 2), 1), 2);
        Probe.due("to b", x.trace(at, 3), "b");
    }

    /** Behind z, q is entered for none, so with the child that it remembers; p, which forgets, for b or for none. */
    private static void targetOnOneSideLeavesTheOtherAsRemembered() {
        Probe x = Probe.of("state w in top whole", "state p in w", "state q in w remember", "state a in p",
                "state b in p", "state c in q", "state d in q", "state z in top", "enter a a", "enter b b",
                "enter c c", "enter d d", "on n from a to b", "on n from c to d", "on s from w to z",
                "on r from z to b", "on t from z to p", "on u from z to c");
        x.compile();
        Probe.due("both go on", x.trace(0, 0), "bd");
        x.event(0);
        x.event(1);
        int at = x.count(3);
        Probe.due("for b: q has d still", x.trace(at, 2), "bd");
        Probe.due("for p: p has a again", x.trace(at, 3), "ad");
        Probe.due("for c: q has c", x.trace(at, 4), "ac");
        Probe.due("back as it was behind n", x.next(at, 2), x.next(0, 0));
        Probe.due("back as at first", x.next(at, 4), 0);
    }

    private static void ruleToItself() {
        Probe x = Probe.of("state a in top", "state b in a", "state c in a", "enter a ia", "exit a oa", "enter b ib",
                "exit b ob", "exit c oc", "on e from a to a do m", "on n from b to c");
        Probe.due("compiled", x.compile(), 2);
        Probe.due("from the first child", x.trace(0, 0), "oboamiaib");
        Probe.due("from the second one", x.trace(1, 0), "ocoamiaib");
        Probe.due("it forgets", x.next(1, 0), 0);
    }

    private static void ruleToOwnChildAndToOwnParent() {
        Probe x = Probe.of("state a in top", "state b in a", "state c in a", "enter a ia", "exit a oa", "enter b ib",
                "exit b ob", "enter c ic", "exit c oc", "on e from a to c do m", "on f from c to a do n",
                "on g from c to b");
        Probe.due("compiled", x.compile(), 2);
        Probe.due("to the child: the parent is left", x.trace(0, 0), "oboamiaic");
        Probe.due("to the parent: it is left too", x.trace(1, 1), "ocoaniaib");
        Probe.due("between the children: it is not", x.trace(1, 2), "ocib");
    }

    /** A whole state is no scope: a rule from one side to the other leaves it. */
    private static void ruleBetweenSides() {
        Probe x = sides("exit w ow", "exit p op", "exit a oa", "on e from a to d do m", "on f from p to q");
        x.compile();
        Probe.due("from a to d", x.trace(0, 0), "oaopowmiwipiaiqid");
        Probe.due("from p to q", x.trace(0, 1), "oaopowiwipiaiqic");
        Probe.due("d is active", x.active(x.next(0, 0), 7), true);
    }

    private static void innerRulesFirst() {
        Probe x = Probe.of("state p in top", "state a in p", "state b in p", "state z in top", "on e from p to z",
                "on e from a to b");
        Probe.due("compiled", x.compile(), 3);
        Probe.due("a's own rule, though it stands behind", x.current(x.next(0, 0), 1), 3);
        Probe.due("p's rule when b has none", x.current(x.next(1, 0), 0), 4);
    }

    private static void rulesOfTheDeepestStates() {
        Probe x = Probe.of("state a in top", "state b in a", "state c in b", "state d in c", "state e in d",
                "state f in e", "state g in e", "exit f f", "enter g g", "on x from e to e do n",
                "on x from f to g do m", "on y from f to g if f do k", "on z from f to g unless f do l");
        Probe.due("compiled", x.compile(), 2);
        Probe.due("the deepest one's rule alone", x.trace(0, 0), "fmg");
        Probe.due("a condition on the deepest", x.trace(0, 1), "fkg");
        Probe.due("which does not hold", x.trace(0, 2), "");
        Probe.due("the one above, when it has none", x.trace(1, 0), "n");
    }

    private static void sidesBothTakeRules() {
        Probe x = sides("on e from a to b do m", "on e from c to d do n", "on e from w to z do o");
        x.compile();
        Probe.due("both, the first side first", x.trace(0, 0), "mibnid");
        int then = x.next(0, 0);
        Probe.due("b", x.active(then, 5), true);
        Probe.due("d", x.active(then, 7), true);
        Probe.due("none of them then, so the whole one's own", x.trace(then, 0), "oiz");
    }

    private static void conditionsSeeWhatHappenedBefore() {
        Probe x = sides("on e from a to b", "on e from c to d if b do m", "on f from a to b if d",
                "on f from c to d unless b do n");
        x.compile();
        Probe.due("b is active by then", x.trace(0, 0), "ibmid");
        Probe.due("d is not active yet", x.trace(0, 1), "nid");
    }

    private static void ruleOutOfASideEndsIt() {
        Probe x = sides("on e from a to z do m", "on e from c to d do n", "on f from c to z do o",
                "on f from a to b do k", "on e from w to z do l");
        x.compile();
        Probe.due("the first side goes out", x.trace(0, 0), "miz");
        Probe.due("the second side goes out behind the first's rule", x.trace(0, 1), "kiboiz");
    }

    /** r and s stand side by side within m, a child of p: a rule from r to n ends m's turn, but not w's. */
    private static void scopeWithinTheSideDoesNotEndIt() {
        Probe x = Probe.of("state w in top whole", "state p in w", "state q in w", "state m in p whole",
                "state n in p", "state r in m", "state s in m", "state c in q", "state d in q",
                "enter n n", "enter d d", "exit m m", "exit s s", "exit r r",
                "on e from r to n do x", "on e from s to n do y", "on e from c to d do z",
                "on f from s to d do y", "on f from c to d do z");
        x.compile();
        Probe.due("r goes to n, s is not asked, c goes to d", x.trace(0, 0), "srmxnzd");
        Probe.due("s goes out of w, c is not asked", x.trace(0, 1), "srmyd");
    }

    /** m's children r and s stand below x, in v, in w: a rule from r to n, both below x, ends m's turn alone. */
    private static void wholesWithinWholes() {
        Probe x = Probe.of("state w in top whole", "state v in w whole", "state x in v", "state m in x whole",
                "state n in x", "state r in m", "state s in m", "state q in v", "state c in q", "state d in q",
                "state p in w", "state t in p", "enter n n", "exit s s", "exit r r", "enter d d",
                "on e from r to n do x", "on e from s to n do y", "on e from c to d do z", "on e from t to t do t",
                "on f from s to r do k", "on f from c to d do z", "on f from t to t do t");
        Probe.due("compiled", x.compile() > 1, true);
        Probe.due("r goes to n, s is not asked, c and t are", x.trace(0, 0), "srxnzdt");
        Probe.due("n has no rule then, d neither", x.trace(x.next(0, 0), 0), "t");
        Probe.due("s goes round within x, c and t are asked", x.trace(0, 1), "srkzdt");
    }

    private static void wholeLooksAtItsOwnRulesLast() {
        Probe x = sides("on e from w to z do o", "on e from c to d unless d do n", "on e from q to c if b do k");
        x.compile();
        Probe.due("the second side takes one", x.trace(0, 0), "nid");
        Probe.due("none takes one", x.trace(x.next(0, 0), 0), "oiz");
    }

    private static void rulesOfStatesThatAreNotActive() {
        Probe x = sides("on e from b to a do m", "on e from z to w do n", "on e from d to c do o");
        Probe.due("compiled", x.compile(), 1);
        Probe.due("nothing is done", x.trace(0, 0), "");
        Probe.due("it stays", x.next(0, 0), 0);
    }

    private static void firstRuleWhoseConditionHolds() {
        Probe x = Probe.of("state a in top", "state b in top", "on e from a to b if b do x",
                "on e from a to b unless a do y", "on e from a to b unless top do z", "on f from a to b do v",
                "on e from a to a if top do t", "on e from a to b if a do u", "on f from a to b do w");
        x.compile();
        Probe.due("if top", x.trace(0, 0), "t");
        Probe.due("the first of two", x.trace(0, 1), "v");
        Probe.due("e does not move it", x.next(0, 0), 0);
    }

    /** A child that comes behind a rule counts as well: first children are those of the making. */
    private static void childrenMadeLater() {
        Probe x = Probe.of("state a in top", "state b in top", "on e from a to b", "state c in b whole", "enter c c");
        x.compile();
        Probe.due("c", x.trace(0, 0), "c");
        x.line("state d in c");
        x.line("state f in c");
        x.line("enter d d");
        x.line("enter f f");
        x.compile();
        Probe.due("c with both", x.trace(0, 0), "cdf");
        Probe.due("c has no current one", x.current(1, 3), -1);
    }
}
