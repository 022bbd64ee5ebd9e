import java.util.NoSuchElementException;

/**
 * A ChartTable under test: answers are compared by due, exceptions become numbers, and the calls are counted,
 * since nothing is promised behind the 512th.
 */
final class Probe {
    static final int ARGUMENT = -1001;
    static final int STATE = -1002;
    static final int ELEMENT = -1003;
    static final int MOST_CALLS = 512;

    private static int wrong = 0;
    private static int compared = 0;
    private static String sentence = "";

    private final ChartTable table = new ChartTable();
    private int calls = 0;

    /** Says which sentence of the document the answers from now on are about. */
    static void sentence(String words) {
        sentence = words + " | ";
    }

    static void due(String what, long got, long want) {
        compared++;
        if (got != want) {
            wrong++;
            System.out.println(sentence + what + ": answered " + got + ", due is " + want);
        }
    }

    static void due(String what, String got, String want) {
        compared++;
        if (!got.equals(want)) {
            wrong++;
            System.out.println(sentence + what + ": answered '" + got + "', due is '" + want + "'");
        }
    }

    static void due(String what, boolean got, boolean want) {
        due(what, got ? 1 : 0, want ? 1 : 0);
    }

    static void end() {
        if (compared == 0) {
            System.out.println("nothing was compared");
            System.exit(1);
        }
        if (wrong != 0) {
            System.out.println(wrong + " of " + compared + " answers are not as due");
            System.exit(1);
        }
    }

    /** A probe that has read these lines, all of which have to be good ones. */
    static Probe of(String... lines) {
        Probe probe = new Probe();
        for (String line : lines) {
            int want = line.startsWith("state") ? 1 : line.startsWith("on") ? 3 : 2;
            due(line, probe.line(line), want);
        }
        return probe;
    }

    private ChartTable call() {
        calls++;
        if (calls > MOST_CALLS) {
            throw new AssertionError("a test uses an object for more than " + MOST_CALLS + " calls");
        }
        return table;
    }

    int calls() {
        return calls;
    }

    private static int codeOf(RuntimeException thrown) {
        if (thrown.getClass() == IllegalArgumentException.class) {
            return ARGUMENT;
        }
        if (thrown.getClass() == IllegalStateException.class) {
            return STATE;
        }
        if (thrown.getClass() == NoSuchElementException.class) {
            return ELEMENT;
        }
        throw thrown;
    }

    boolean write(char c) {
        return call().write(c);
    }

    void writeAll(String text) {
        for (int i = 0; i < text.length(); i++) {
            due("write of " + text + " at " + i, write(text.charAt(i)), true);
        }
    }

    int line() {
        try {
            return call().line();
        } catch (RuntimeException thrown) {
            return codeOf(thrown);
        }
    }

    int line(String text) {
        writeAll(text);
        return line();
    }

    int compile() {
        try {
            return call().compile();
        } catch (RuntimeException thrown) {
            return codeOf(thrown);
        }
    }

    int configurations() {
        return call().configurations();
    }

    int count(int what) {
        return call().count(what);
    }

    int named() {
        try {
            return call().named();
        } catch (RuntimeException thrown) {
            return codeOf(thrown);
        }
    }

    int named(String text) {
        writeAll(text);
        return named();
    }

    int next(int configuration, int event) {
        try {
            return call().next(configuration, event);
        } catch (RuntimeException thrown) {
            return codeOf(thrown);
        }
    }

    int trace(int configuration, int event, int i) {
        return call().trace(configuration, event, i);
    }

    /** The whole trace as a text. */
    String trace(int configuration, int event) {
        StringBuilder text = new StringBuilder();
        for (int i = 0; i <= 40; i++) {
            int code = trace(configuration, event, i);
            if (code == -1) {
                break;
            }
            text.append((char) code);
        }
        return text.toString();
    }

    boolean active(int configuration, int state) {
        return call().active(configuration, state);
    }

    int current(int configuration, int state) {
        return call().current(configuration, state);
    }

    int event(int event) {
        try {
            return call().event(event);
        } catch (RuntimeException thrown) {
            return codeOf(thrown);
        }
    }

    int noted() {
        return call().noted();
    }
}
