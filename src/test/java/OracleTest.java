import java.util.Random;
import java.util.function.IntSupplier;

/** Long pseudo-random runs of at most 512 calls, each answer compared with the oracle's. */
public final class OracleTest {
    private static final int RUNS = 4000;
    private static final int MOST_CALLS = 512;
    private static final String[] NAMES = {"top", "a", "b", "c", "d", "e", "f", "g", "h", "i", "j", "k", "l", "m", "n"};
    private static final int[] ODD = {Integer.MIN_VALUE, -2, 14, 30, 40, 180, Integer.MAX_VALUE};

    private final Random random;
    private final ChartTable table = new ChartTable();
    private final Oracle oracle = new Oracle();
    private final StringBuilder history = new StringBuilder();
    private final int[] parents = new int[NAMES.length];
    private final boolean broad;
    private int calls = 0;
    private int names = 1;
    private int turn = 0;

    private OracleTest(long seed) {
        random = new Random(seed);
        broad = random.nextBoolean();
        history.append("seed ").append(seed).append(": ");
    }

    private static int compared = 0;
    private static int compiled = 0;
    private static int refused = 0;
    private static int largest = 0;

    public static void main(String[] args) {
        for (int seed = 0; seed < RUNS; seed++) {
            new OracleTest(seed).run();
        }
        // Runs that never get anywhere would compare nothing of worth.
        boolean rich = compiled > RUNS / 2 && refused > 0 && largest > 20;
        Probe.due("tables " + compiled + ", refused " + refused + ", largest " + largest, rich, true);
        Probe.end();
    }

    private void run() {
        int building = broad ? 400 + random.nextInt(60) : 150 + random.nextInt(300);
        while (calls < building) {
            if (random.nextInt(20) == 0) {
                compile();
            }
            String line = broad ? broadLine() : someLine();
            writeLine(random.nextInt(broad ? 40 : 12) == 0 ? spoilt(line) : line);
        }
        compile();
        while (calls < MOST_CALLS) {
            ask();
        }
    }

    private static String answer(IntSupplier call) {
        try {
            return String.valueOf(call.getAsInt());
        } catch (RuntimeException thrown) {
            return thrown.getClass().getName();
        }
    }

    private String same(String call, IntSupplier got, IntSupplier want) {
        calls++;
        if (calls > MOST_CALLS) {
            return "";
        }
        compared++;
        String due = answer(want);
        String answered = answer(got);
        history.append(call).append("; ");
        if (!due.equals(answered)) {
            System.out.println(history + "answered " + answered + ", due is " + due);
            System.exit(1);
        }
        return due;
    }

    private void writeText(String text) {
        for (int i = 0; i < text.length(); i++) {
            char c = text.charAt(i);
            same("write " + c, () -> table.write(c) ? 1 : 0, () -> oracle.write(c) ? 1 : 0);
        }
    }

    private void writeLine(String text) {
        writeText(text);
        same("line", table::line, oracle::line);
    }

    private void compile() {
        String due = same("compile", table::compile, oracle::compile);
        if (due.equals("java.lang.IllegalStateException")) {
            refused++;
        } else if (!due.isEmpty()) {
            compiled++;
            largest = Math.max(largest, Integer.parseInt(due));
        }
    }

    private String name() {
        return NAMES[random.nextInt(Math.min(names, NAMES.length))];
    }

    private String below() {
        return NAMES[names == 1 ? 0 : 1 + random.nextInt(Math.min(names, NAMES.length) - 1)];
    }

    private String marks() {
        return "wxyz".substring(random.nextInt(2), 2 + random.nextInt(2));
    }

    private String stateLine(int parent) {
        String[] behind = {"", "", " whole", " remember"};
        parents[names] = parent;
        names++;
        return "state " + NAMES[names - 1] + " in " + NAMES[parent] + behind[random.nextInt(behind.length)];
    }

    private int someEvent() {
        return random.nextInt(random.nextInt(8) == 0 ? 8 : 3);
    }

    private String ruleLine(int event, String from, String to) {
        String[] condition = {"", "", "", "", " if " + name(), " unless " + name()};
        return "on " + (char) ('s' + event) + " from " + from + " to " + to
                + condition[random.nextInt(condition.length)] + (random.nextInt(3) == 0 ? " do " + marks() : "");
    }

    private String someLine() {
        int kind = random.nextInt(10);
        if (kind < 5 && names < NAMES.length && names < 4 + random.nextInt(12)) {
            return stateLine(random.nextInt(names));
        }
        if (kind < 7) {
            return (random.nextBoolean() ? "enter " : "exit ") + name() + " " + marks();
        }
        return ruleLine(someEvent(), below(), below());
    }

    /** Lines for charts with many configurations: few parents, and rules that go round among their children. */
    private String broadLine() {
        if (names < 9 + random.nextInt(4)) {
            return stateLine(names < 2 ? 0 : random.nextInt(Math.min(names, 4)));
        }
        if (random.nextInt(8) == 0) {
            return (random.nextBoolean() ? "enter " : "exit ") + name() + " " + marks();
        }
        if (random.nextInt(8) == 0) {
            return ruleLine(someEvent(), below(), below());
        }
        int from = turn % (names - 1) + 1;
        turn++;
        return ruleLine(random.nextInt(3) == 0 ? someEvent() : parents[from], NAMES[from], NAMES[nextBrother(from)]);
    }

    private int nextBrother(int from) {
        for (int i = 1; i < names; i++) {
            int other = (from + i - 1) % (names - 1) + 1;
            if (parents[other] == parents[from]) {
                return other;
            }
        }
        return from;
    }

    private String spoilt(String line) {
        int at = random.nextInt(line.length());
        return switch (random.nextInt(5)) {
            case 0 -> line.substring(0, at) + line.substring(at + 1);
            case 1 -> line.substring(0, at) + (char) random.nextInt(140) + line.substring(at);
            case 2 -> line.substring(0, at);
            case 3 -> line.replace(" ", " ".repeat(1 + random.nextInt(4)));
            default -> line + " " + NAMES[random.nextInt(NAMES.length)];
        };
    }

    private int number(int below) {
        return random.nextInt(30) == 0 ? ODD[random.nextInt(ODD.length)] : random.nextInt(below + 3) - 1;
    }

    private void ask() {
        int size = oracle.configurations();
        int c = number(size);
        int e = number(oracle.count(2));
        int s = number(oracle.count(0));
        int i = number(random.nextInt(4) == 0 ? 42 : 8);
        switch (random.nextInt(40)) {
            case 0 -> same("count " + i, () -> table.count(i), () -> oracle.count(i));
            case 1 -> same("configurations", table::configurations, oracle::configurations);
            case 2 -> {
                writeText(random.nextInt(4) == 0 ? " " + name() + " " : name());
                same("named", table::named, oracle::named);
            }
            case 3 -> compileAgain();
            case 4, 5, 6, 7, 8, 9 -> same("noted", table::noted, oracle::noted);
            case 10, 11, 12, 13, 14, 15, 16 ->
                same("next " + c + " " + e, () -> table.next(c, e), () -> oracle.next(c, e));
            case 17, 18, 19, 20, 21, 22 ->
                same("active " + c + " " + s, () -> table.active(c, s) ? 1 : 0, () -> oracle.active(c, s) ? 1 : 0);
            case 23, 24, 25, 26, 27, 28 ->
                same("current " + c + " " + s, () -> table.current(c, s), () -> oracle.current(c, s));
            case 29, 30, 31, 32, 33 -> same("event " + e, () -> table.event(e), () -> oracle.event(e));
            default -> same("trace " + c + " " + e + " " + i, () -> table.trace(c, e, i), () -> oracle.trace(c, e, i));
        }
    }

    private void compileAgain() {
        if (random.nextInt(6) == 0) {
            writeLine(someLine());
            same("configurations", table::configurations, oracle::configurations);
        }
        compile();
    }
}
