import java.util.NoSuchElementException;

/** Charts of states within states, read line by line, made flat into a table, and run. */
public final class ChartTable {
    private static final int MOST_CHARACTERS = 50;
    private static final int MOST_WORDS = 25;
    private static final int MOST_STATES = 14;
    private static final int MOST_DEPTH = 6;
    private static final int MOST_STATE_MARKS = 6;
    private static final int MOST_RULES = 20;
    private static final int MOST_EVENTS = 6;
    private static final int MOST_CONFIGURATIONS = 30;
    private static final int MOST_TRACE = 40;
    private static final int NAME_LETTERS = 4;
    private static final int MARK_LETTERS = 3;

    private static final char BLANK = ' ';
    private static final char LAST_CHARACTER = '~';

    private static final int NONE = -1;
    private static final int TOP = 0;

    /** Names are kept as numbers of base 27 (a is 1), so that no texts have to be made. */
    private static final int NAME_BASE = 27;
    private static final int TOP_NAME = (20 * NAME_BASE + 15) * NAME_BASE + 16;

    /** What reading a line comes to; the first four are answers of the face. */
    private static final int NO_WORDS = 0;
    private static final int A_STATE = 1;
    private static final int SOME_MARKS = 2;
    private static final int A_RULE = 3;
    private static final int NO_LINE = -1;
    private static final int NO_ROOM = -2;

    /** Deeper than any scope can be: the least depth of no scopes at all. */
    private static final int NOT_TAKEN = MOST_DEPTH + 1;

    /** The trace of starting stands behind those of all configurations and events. */
    private static final int START_ROW = MOST_CONFIGURATIONS * MOST_EVENTS;

    private final Line text;
    private final States states;
    private final Rules rules;
    private final Reader reader;
    private final Table table;

    public ChartTable() {
        text = new Line();
        states = new States();
        rules = new Rules();
        reader = new Reader(text, states, rules);
        table = new Table(states, rules);
    }

    public boolean write(char c) {
        return text.append(c);
    }

    public int line() throws IllegalArgumentException, IllegalStateException {
        int kind = reader.read();
        if (kind == NO_LINE) {
            throw new IllegalArgumentException("this is no line");
        }
        if (kind == NO_ROOM) {
            throw new IllegalStateException("there is no room for what the line says");
        }
        if (kind != NO_WORDS) {
            table.drop();
        }
        return kind;
    }

    public int compile() throws IllegalStateException {
        if (!table.build()) {
            throw new IllegalStateException("there are too many configurations");
        }
        return table.size();
    }

    public int configurations() {
        return table.size();
    }

    public int count(int what) {
        switch (what) {
            case 0:
                return states.made();
            case 1:
                return rules.made();
            case 2:
                return rules.events();
            case 3:
                return table.place();
            default:
                return NONE;
        }
    }

    public int named() throws NoSuchElementException {
        text.split();
        int state = text.words() == 1 ? states.find(text.nameAt(0)) : NONE;
        if (state == NONE) {
            throw new NoSuchElementException("no state is so called");
        }
        return state;
    }

    public int next(int configuration, int event) throws NoSuchElementException {
        int following = table.following(configuration, event);
        if (following == NONE) {
            throw new NoSuchElementException("the table has no such configuration or event");
        }
        return following;
    }

    public int trace(int configuration, int event, int i) {
        return table.traceLetter(configuration, event, i);
    }

    public boolean active(int configuration, int state) {
        return table.isActive(configuration, state);
    }

    public int current(int configuration, int state) {
        return table.currentChild(configuration, state);
    }

    public int event(int event) throws IllegalStateException, IllegalArgumentException {
        if (table.size() == 0) {
            throw new IllegalStateException("there is no table");
        }
        if (!rules.isEvent(event)) {
            throw new IllegalArgumentException("there is no such event");
        }
        return table.step(event);
    }

    public int noted() {
        return table.marksNoted();
    }

    /** The line that is written, and where its words stand once it has been split. */
    private static final class Line {
        private final char[] characters = new char[MOST_CHARACTERS];
        private final int[] starts = new int[MOST_WORDS];
        private final int[] ends = new int[MOST_WORDS];
        private int length;
        private int words;

        boolean append(char c) {
            if (c < BLANK || c > LAST_CHARACTER || length >= MOST_CHARACTERS) {
                return false;
            }
            characters[length] = c;
            length++;
            return true;
        }

        /** Finds the words and empties the line; the words can be asked for until it is written again. */
        void split() {
            words = 0;
            boolean inWord = false;
            for (int i = 0; i < length && i < MOST_CHARACTERS; i++) {
                boolean blank = characters[i] == BLANK;
                if (!blank && !inWord && words < MOST_WORDS) {
                    starts[words] = i;
                    words++;
                }
                if (!blank && words > 0) {
                    ends[words - 1] = i + 1;
                }
                inWord = !blank;
            }
            length = 0;
        }

        int words() {
            return words;
        }

        boolean says(int word, String wanted) {
            if (sizeOf(word) != wanted.length()) {
                return false;
            }
            for (int i = 0; i < wanted.length(); i++) {
                if (letterAt(word, i) != wanted.charAt(i)) {
                    return false;
                }
            }
            return true;
        }

        int sizeOf(int word) {
            return word >= 0 && word < words ? ends[word] - starts[word] : 0;
        }

        char letterAt(int word, int i) {
            return i >= 0 && i < sizeOf(word) ? characters[starts[word] + i] : BLANK;
        }

        /** Whether a word is there and consists of a .. z, of so many at most. */
        boolean isLetters(int word, int most) {
            int size = sizeOf(word);
            if (size == 0 || size > most) {
                return false;
            }
            for (int i = 0; i < size; i++) {
                char letter = letterAt(word, i);
                if (letter < 'a' || letter > 'z') {
                    return false;
                }
            }
            return true;
        }

        int nameAt(int word) {
            if (!isLetters(word, NAME_LETTERS)) {
                return NONE;
            }
            int name = 0;
            int size = sizeOf(word);
            for (int i = 0; i < size; i++) {
                name = name * NAME_BASE + letterAt(word, i) - 'a' + 1;
            }
            return name;
        }
    }

    /** Rows of marks, each with room for the same number, in one array. */
    private static final class MarkRows {
        private final int rows;
        private final int most;
        private final char[] letters;
        private final int[] sizes;

        MarkRows(int rows, int most) {
            this.rows = Math.max(rows, 0);
            this.most = Math.max(most, 0);
            letters = new char[Math.max(this.rows * this.most, 0)];
            sizes = new int[this.rows];
        }

        private boolean isRow(int row) {
            return row >= 0 && row < rows;
        }

        int sizeOf(int row) {
            return isRow(row) ? sizes[row] : 0;
        }

        int letterAt(int row, int i) {
            return i >= 0 && i < sizeOf(row) ? letters[row * most + i] : NONE;
        }

        boolean hasRoom(int row, int more) {
            return isRow(row) && more <= most - sizes[row];
        }

        void empty(int row) {
            if (isRow(row)) {
                sizes[row] = 0;
            }
        }

        void add(int row, char letter) {
            if (isRow(row) && sizes[row] < most) {
                letters[row * most + sizes[row]] = letter;
                sizes[row]++;
            }
        }

        /** Puts another's row behind one of these, as far as there is room. */
        void addRow(int row, MarkRows from, int fromRow) {
            if (from == null || !isRow(row) || !from.isRow(fromRow)) {
                return;
            }
            int copied = Math.min(from.sizes[fromRow], most - sizes[row]);
            int start = row * most + sizes[row];
            for (int i = 0; i < copied; i++) {
                letters[start + i] = from.letters[fromRow * from.most + i];
            }
            sizes[row] += copied;
        }
    }

    /** The tree of states. */
    private static final class States {
        private final int[] names = new int[MOST_STATES];
        private final int[] parents = new int[MOST_STATES];
        private final int[] depths = new int[MOST_STATES];
        private final int[] firstChildren = new int[MOST_STATES];
        private final boolean[] wholes = new boolean[MOST_STATES];
        private final boolean[] remembering = new boolean[MOST_STATES];
        private final MarkRows entering = new MarkRows(MOST_STATES, MOST_STATE_MARKS);
        private final MarkRows leaving = new MarkRows(MOST_STATES, MOST_STATE_MARKS);
        private int made;

        States() {
            names[TOP] = TOP_NAME;
            parents[TOP] = NONE;
            firstChildren[TOP] = NONE;
            made = 1;
        }

        int made() {
            return made;
        }

        boolean isFull() {
            return made >= MOST_STATES;
        }

        boolean isState(int state) {
            return state >= 0 && state < made;
        }

        MarkRows entering() {
            return entering;
        }

        MarkRows leaving() {
            return leaving;
        }

        int find(int name) {
            for (int state = 0; state < made; state++) {
                if (names[state] == name) {
                    return state;
                }
            }
            return NONE;
        }

        void make(int name, int parent, boolean whole, boolean remembers) {
            if (isFull() || !isState(parent)) {
                return;
            }
            names[made] = name;
            parents[made] = parent;
            depths[made] = depths[parent] + 1;
            firstChildren[made] = NONE;
            wholes[made] = whole;
            remembering[made] = remembers;
            if (firstChildren[parent] == NONE) {
                firstChildren[parent] = made;
            }
            made++;
        }

        int parentOf(int state) {
            return isState(state) ? parents[state] : NONE;
        }

        int depthOf(int state) {
            return isState(state) ? depths[state] : 0;
        }

        boolean isWhole(int state) {
            return isState(state) && wholes[state];
        }

        boolean isRemembering(int state) {
            return isState(state) && remembering[state];
        }

        /** The child that is the current one at first; none for a whole state, which has no current one. */
        int currentAtFirst(int state) {
            return isState(state) && !wholes[state] ? firstChildren[state] : NONE;
        }

        /** The child of a state that is the target or has it below. */
        int childToward(int above, int target) {
            if (!isState(above)) {
                return NONE;
            }
            int child = target;
            for (int i = 0; i <= MOST_DEPTH && isState(child); i++) {
                if (parents[child] == above) {
                    return child;
                }
                child = parents[child];
            }
            return NONE;
        }

        /** The deepest state that is not whole and that both are below: top, when no deeper one is. */
        int scopeOf(int from, int target) {
            int above = parentOf(from);
            for (int i = 0; i <= MOST_DEPTH && above > TOP; i++) {
                if (!isWhole(above) && childToward(above, target) != NONE) {
                    return above;
                }
                above = parentOf(above);
            }
            return TOP;
        }
    }

    /** The rules in order, and the events that they name. */
    private static final class Rules {
        private final int[] eventNames = new int[MOST_EVENTS];
        private final int[] ruleEvents = new int[MOST_RULES];
        private final int[] froms = new int[MOST_RULES];
        private final int[] targets = new int[MOST_RULES];
        private final int[] scopes = new int[MOST_RULES];
        private final int[] askedStates = new int[MOST_RULES];
        private final boolean[] wanted = new boolean[MOST_RULES];
        private final MarkRows marks = new MarkRows(MOST_RULES, MARK_LETTERS);
        private int made;
        private int events;

        int made() {
            return made;
        }

        int events() {
            return events;
        }

        MarkRows marks() {
            return marks;
        }

        boolean isRule(int rule) {
            return rule >= 0 && rule < made;
        }

        boolean isEvent(int event) {
            return event >= 0 && event < events;
        }

        private int findEvent(int name) {
            for (int event = 0; event < events; event++) {
                if (eventNames[event] == name) {
                    return event;
                }
            }
            return NONE;
        }

        boolean hasRoom(int eventName) {
            return made < MOST_RULES && (events < MOST_EVENTS || findEvent(eventName) != NONE);
        }

        void make(int eventName, int from, int target, int scope, int asked, boolean active) {
            if (!hasRoom(eventName)) {
                return;
            }
            int event = findEvent(eventName);
            if (event == NONE) {
                event = events;
                eventNames[events] = eventName;
                events++;
            }
            ruleEvents[made] = event;
            froms[made] = from;
            targets[made] = target;
            scopes[made] = scope;
            askedStates[made] = asked;
            wanted[made] = active;
            made++;
        }

        boolean isFor(int rule, int event, int from) {
            return isRule(rule) && ruleEvents[rule] == event && froms[rule] == from;
        }

        int targetOf(int rule) {
            return isRule(rule) ? targets[rule] : NONE;
        }

        int scopeOf(int rule) {
            return isRule(rule) ? scopes[rule] : NONE;
        }

        /** The state that the rule's condition is about. */
        int askedOf(int rule) {
            return isRule(rule) ? askedStates[rule] : NONE;
        }

        /** Whether that state has to be active, or has not to be. */
        boolean isWantedActive(int rule) {
            return isRule(rule) && wanted[rule];
        }
    }

    /** Reads the line's words into states, marks and rules. */
    private static final class Reader {
        private final Line text;
        private final States states;
        private final Rules rules;

        Reader(Line text, States states, Rules rules) {
            this.text = text;
            this.states = states;
            this.rules = rules;
        }

        int read() {
            text.split();
            if (text.words() == 0) {
                return NO_WORDS;
            }
            if (text.says(0, "state")) {
                return readState();
            }
            if (text.says(0, "enter")) {
                return readMarks(states.entering());
            }
            if (text.says(0, "exit")) {
                return readMarks(states.leaving());
            }
            return text.says(0, "on") ? readRule() : NO_LINE;
        }

        private int readState() {
            boolean whole = text.says(4, "whole");
            boolean remembers = text.says(4, "remember");
            if (text.words() != (whole || remembers ? 5 : 4) || !text.says(2, "in")) {
                return NO_LINE;
            }
            int name = text.nameAt(1);
            int parent = states.find(text.nameAt(3));
            if (name == NONE || states.find(name) != NONE) {
                return NO_LINE;
            }
            if (parent == NONE || states.depthOf(parent) >= MOST_DEPTH) {
                return NO_LINE;
            }
            if (states.isFull()) {
                return NO_ROOM;
            }
            states.make(name, parent, whole, remembers);
            return A_STATE;
        }

        private int readMarks(MarkRows rows) {
            int state = states.find(text.nameAt(1));
            if (text.words() != 3 || state == NONE || !text.isLetters(2, MARK_LETTERS)) {
                return NO_LINE;
            }
            if (!rows.hasRoom(state, text.sizeOf(2))) {
                return NO_ROOM;
            }
            addMarks(rows, state, 2);
            return SOME_MARKS;
        }

        private int readRule() {
            int from = states.find(text.nameAt(3));
            int target = states.find(text.nameAt(5));
            if (text.nameAt(1) == NONE || !text.says(2, "from") || !text.says(4, "to")) {
                return NO_LINE;
            }
            if (from == NONE || from == TOP || target == NONE || target == TOP) {
                return NO_LINE;
            }
            boolean unless = text.says(6, "unless");
            boolean conditional = unless || text.says(6, "if");
            // A rule without a condition asks for top, which is always active.
            int asked = conditional ? states.find(text.nameAt(7)) : TOP;
            int behind = conditional ? 8 : 6;
            if (asked == NONE || !isEndOfRule(behind)) {
                return NO_LINE;
            }
            if (!rules.hasRoom(text.nameAt(1))) {
                return NO_ROOM;
            }
            int scope = states.scopeOf(from, target);
            rules.make(text.nameAt(1), from, target, scope, asked, !unless);
            addMarks(rules.marks(), rules.made() - 1, behind + 1);
            return A_RULE;
        }

        /** Whether nothing, or the marks to be done, stand from a word on. */
        private boolean isEndOfRule(int word) {
            if (text.says(word, "do")) {
                return text.words() == word + 2 && text.isLetters(word + 1, MARK_LETTERS);
            }
            return text.words() == word;
        }

        private void addMarks(MarkRows rows, int row, int word) {
            int size = text.sizeOf(word);
            for (int i = 0; i < size; i++) {
                rows.add(row, text.letterAt(word, i));
            }
        }
    }

    /** The chart as it stands: which child of each state is the current one, and what events do to that. */
    private static final class Walk {
        private final States states;
        private final Rules rules;
        private final MarkRows traces;
        private final int[] currents = new int[MOST_STATES];
        private int row;

        Walk(States states, Rules rules, MarkRows traces) {
            this.states = states;
            this.rules = rules;
            this.traces = traces;
        }

        int currentChild(int state) {
            return state >= 0 && state < MOST_STATES ? currents[state] : NONE;
        }

        void makeCurrent(int state, int child) {
            if (state >= 0 && state < MOST_STATES) {
                currents[state] = child;
            }
        }

        /** Starts from all being as at first; the marks are noted in that row of the traces. */
        void start(int traceRow) {
            for (int state = 0; state < MOST_STATES; state++) {
                currents[state] = states.currentAtFirst(state);
            }
            noteIn(traceRow);
            enter(TOP, NONE, 0);
        }

        /** Offers an event to top; the marks are noted in that row of the traces. */
        void receive(int event, int traceRow) {
            noteIn(traceRow);
            offer(TOP, event, 0);
        }

        private void noteIn(int traceRow) {
            row = traceRow;
            traces.empty(row);
        }

        boolean isActive(int state) {
            int below = state;
            for (int i = 0; i <= MOST_DEPTH && below > TOP; i++) {
                int parent = states.parentOf(below);
                if (!states.isWhole(parent) && currentChild(parent) != below) {
                    return false;
                }
                below = parent;
            }
            return below == TOP;
        }

        /** A target that is not below the state changes nothing, so it is handed on to each child alike. */
        private void enter(int state, int target, int depth) {
            if (!states.isState(state) || depth > MOST_DEPTH) {
                return;
            }
            traces.addRow(row, states.entering(), state);
            if (states.isWhole(state)) {
                for (int child = state + 1; child < states.made(); child++) {
                    if (states.parentOf(child) == state) {
                        enter(child, target, depth + 1);
                    }
                }
                return;
            }
            int toward = states.childToward(state, target);
            if (toward != NONE) {
                makeCurrent(state, toward);
            }
            enter(currentChild(state), target, depth + 1);
        }

        private void leave(int state, int depth) {
            if (!states.isState(state) || depth > MOST_DEPTH) {
                return;
            }
            if (states.isWhole(state)) {
                for (int child = states.made() - 1; child > state; child--) {
                    if (states.parentOf(child) == state) {
                        leave(child, depth + 1);
                    }
                }
            } else {
                leave(currentChild(state), depth + 1);
            }
            traces.addRow(row, states.leaving(), state);
            if (!states.isRemembering(state)) {
                makeCurrent(state, states.currentAtFirst(state));
            }
        }

        /**
         * Offers an event: the least depth of the scopes of the rules that were taken. Such a scope and the
         * child that the rule came from are both above the rule's state, so depths say which is the higher.
         */
        private int offer(int state, int event, int depth) {
            if (!states.isState(state) || depth > MOST_DEPTH) {
                return NOT_TAKEN;
            }
            int least = NOT_TAKEN;
            if (states.isWhole(state)) {
                for (int child = state + 1; child < states.made() && least > depth; child++) {
                    if (states.parentOf(child) == state) {
                        least = Math.min(least, offer(child, event, depth + 1));
                    }
                }
            } else {
                least = offer(currentChild(state), event, depth + 1);
            }
            return least == NOT_TAKEN ? take(ownRule(state, event)) : least;
        }

        private int ownRule(int state, int event) {
            for (int rule = 0; rule < rules.made(); rule++) {
                if (rules.isFor(rule, event, state)
                        && isActive(rules.askedOf(rule)) == rules.isWantedActive(rule)) {
                    return rule;
                }
            }
            return NONE;
        }

        /** Takes a rule, if it is one: the depth of its scope. */
        private int take(int rule) {
            if (!rules.isRule(rule)) {
                return NOT_TAKEN;
            }
            int scope = rules.scopeOf(rule);
            int target = rules.targetOf(rule);
            int depth = states.depthOf(scope);
            leave(currentChild(scope), depth + 1);
            traces.addRow(row, rules.marks(), rule);
            makeCurrent(scope, states.childToward(scope, target));
            enter(currentChild(scope), target, depth + 1);
            return depth;
        }
    }

    /** The flat table, and the run on it. */
    private static final class Table {
        private final States states;
        private final Rules rules;
        private final MarkRows traces = new MarkRows(START_ROW + 1, MOST_TRACE);
        private final Walk walk;
        private final int[] currents = new int[MOST_CONFIGURATIONS * MOST_STATES];
        private final int[] followers = new int[MOST_CONFIGURATIONS * MOST_EVENTS];
        private int size;
        private int place;
        private int marksNoted;

        Table(States states, Rules rules) {
            this.states = states;
            this.rules = rules;
            walk = new Walk(states, rules, traces);
        }

        void drop() {
            size = 0;
        }

        int size() {
            return size;
        }

        int place() {
            return size == 0 ? NONE : place;
        }

        int marksNoted() {
            return size == 0 ? 0 : marksNoted;
        }

        /** Whether there is a table then. */
        boolean build() {
            size = 0;
            walk.start(START_ROW);
            numberOfWalk();
            for (int from = 0; from < MOST_CONFIGURATIONS && from < size; from++) {
                for (int event = 0; event < MOST_EVENTS && event < rules.events(); event++) {
                    int cell = cellOf(from, event);
                    setWalk(from);
                    walk.receive(event, cell);
                    int follower = numberOfWalk();
                    if (cell == NONE || follower == NONE) {
                        size = 0;
                        return false;
                    }
                    followers[cell] = follower;
                }
            }
            place = 0;
            marksNoted = traces.sizeOf(START_ROW);
            return true;
        }

        private boolean isConfiguration(int configuration) {
            return configuration >= 0 && configuration < size;
        }

        private int cellOf(int configuration, int event) {
            return isConfiguration(configuration) && rules.isEvent(event)
                    ? configuration * MOST_EVENTS + event : NONE;
        }

        private void setWalk(int configuration) {
            for (int state = 0; state < MOST_STATES; state++) {
                walk.makeCurrent(state, currentChild(configuration, state));
            }
        }

        private boolean isWalk(int configuration) {
            for (int state = 0; state < MOST_STATES; state++) {
                if (currentChild(configuration, state) != walk.currentChild(state)) {
                    return false;
                }
            }
            return true;
        }

        /** The number of the configuration that the walk is at, a new one if need be; none when all are used. */
        private int numberOfWalk() {
            for (int configuration = 0; configuration < size; configuration++) {
                if (isWalk(configuration)) {
                    return configuration;
                }
            }
            if (size >= MOST_CONFIGURATIONS) {
                return NONE;
            }
            for (int state = 0; state < MOST_STATES; state++) {
                currents[size * MOST_STATES + state] = walk.currentChild(state);
            }
            size++;
            return size - 1;
        }

        int following(int configuration, int event) {
            int cell = cellOf(configuration, event);
            return cell == NONE ? NONE : followers[cell];
        }

        int traceLetter(int configuration, int event, int i) {
            boolean starting = size > 0 && configuration == 0 && event == NONE;
            return traces.letterAt(starting ? START_ROW : cellOf(configuration, event), i);
        }

        boolean isActive(int configuration, int state) {
            if (!isConfiguration(configuration) || !states.isState(state)) {
                return false;
            }
            setWalk(configuration);
            return walk.isActive(state);
        }

        int currentChild(int configuration, int state) {
            return isConfiguration(configuration) && states.isState(state)
                    ? currents[configuration * MOST_STATES + state] : NONE;
        }

        /** The run gets an event: where it is then. */
        int step(int event) {
            int cell = cellOf(place, event);
            if (cell != NONE) {
                place = followers[cell];
                marksNoted += traces.sizeOf(cell);
            }
            return place;
        }
    }
}
