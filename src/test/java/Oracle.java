import java.util.ArrayList;
import java.util.HashMap;
import java.util.LinkedHashMap;
import java.util.List;
import java.util.Map;
import java.util.NoSuchElementException;

/** The document written a second time, as plainly as can be and with the whole library, to compare with. */
final class Oracle {
    private static final class Node {
        final int number;
        final Node parent;
        final boolean whole;
        final boolean remember;
        final List<Node> children = new ArrayList<>();
        String enter = "";
        String exit = "";

        Node(int number, Node parent, boolean whole, boolean remember) {
            this.number = number;
            this.parent = parent;
            this.whole = whole;
            this.remember = remember;
        }

        int depth() {
            return parent == null ? 0 : parent.depth() + 1;
        }

        boolean isBelow(Node above) {
            return parent != null && (parent == above || parent.isBelow(above));
        }

        boolean isOrIsBelow(Node other) {
            return this == other || isBelow(other);
        }
    }

    private record Rule(String event, Node from, Node to, String condition, Node asked, String marks) {
    }

    private record Cell(int next, String trace) {
    }

    private String text = "";
    private final Map<String, Node> nodes = new LinkedHashMap<>();
    private final List<Rule> rules = new ArrayList<>();
    private final List<String> events = new ArrayList<>();
    private List<Map<Node, Node>> configurations = new ArrayList<>();
    private List<List<Cell>> cells = new ArrayList<>();
    private String startTrace = "";
    private int place = -1;
    private int notedMarks = 0;

    private Map<Node, Node> now = new HashMap<>();
    private StringBuilder notes = new StringBuilder();

    Oracle() {
        nodes.put("top", new Node(0, null, false, false));
    }

    boolean write(char c) {
        if (text.length() == 50 || c < 32 || c > 126) {
            return false;
        }
        text += c;
        return true;
    }

    int line() {
        String read = text.replaceAll("^ +| +$", "");
        text = "";
        if (read.isEmpty()) {
            return 0;
        }
        String[] words = read.split(" +");
        String shape = String.join(" ", words);
        int kind;
        if (shape.matches("state [a-z]{1,4} in [a-z]{1,4}( whole| remember)?")) {
            kind = stateLine(words);
        } else if (shape.matches("(enter|exit) [a-z]{1,4} [a-z]{1,3}")) {
            kind = markLine(words);
        } else if (shape.matches(
                "on [a-z]{1,4} from [a-z]{1,4} to [a-z]{1,4}( (if|unless) [a-z]{1,4})?( do [a-z]{1,3})?")) {
            kind = ruleLine(words);
        } else {
            throw new IllegalArgumentException();
        }
        dropTable();
        return kind;
    }

    private void dropTable() {
        configurations = new ArrayList<>();
        cells = new ArrayList<>();
        startTrace = "";
        place = -1;
        notedMarks = 0;
    }

    private Node node(String name) {
        Node node = nodes.get(name);
        if (node == null) {
            throw new IllegalArgumentException();
        }
        return node;
    }

    private int stateLine(String[] words) {
        Node parent = node(words[3]);
        if (nodes.containsKey(words[1]) || parent.depth() == 6) {
            throw new IllegalArgumentException();
        }
        if (nodes.size() == 14) {
            throw new IllegalStateException();
        }
        String kind = words.length == 5 ? words[4] : "";
        Node made = new Node(nodes.size(), parent, kind.equals("whole"), kind.equals("remember"));
        nodes.put(words[1], made);
        parent.children.add(made);
        return 1;
    }

    private int markLine(String[] words) {
        Node node = node(words[1]);
        String then = (words[0].equals("enter") ? node.enter : node.exit) + words[2];
        if (then.length() > 6) {
            throw new IllegalStateException();
        }
        if (words[0].equals("enter")) {
            node.enter = then;
        } else {
            node.exit = then;
        }
        return 2;
    }

    private int ruleLine(String[] words) {
        Node from = node(words[3]);
        Node to = node(words[5]);
        if (from.parent == null || to.parent == null) {
            throw new IllegalArgumentException();
        }
        String condition = "";
        Node asked = null;
        String marks = "";
        for (int i = 6; i < words.length; i += 2) {
            if (words[i].equals("do")) {
                marks = words[i + 1];
            } else {
                condition = words[i];
                asked = node(words[i + 1]);
            }
        }
        if (rules.size() == 20 || !events.contains(words[1]) && events.size() == 6) {
            throw new IllegalStateException();
        }
        if (!events.contains(words[1])) {
            events.add(words[1]);
        }
        rules.add(new Rule(words[1], from, to, condition, asked, marks));
        return 3;
    }

    private boolean isActive(Map<Node, Node> configuration, Node node) {
        return node.parent == null || isActive(configuration, node.parent)
                && (node.parent.whole || configuration.get(node.parent) == node);
    }

    private void note(String marks) {
        notes.append(marks);
    }

    private void enter(Node node, Node target) {
        note(node.enter);
        boolean targetBelow = target != null && target.isBelow(node);
        if (node.whole) {
            for (Node child : node.children) {
                enter(child, targetBelow && target.isOrIsBelow(child) ? target : null);
            }
        } else if (targetBelow) {
            for (Node child : node.children) {
                if (target.isOrIsBelow(child)) {
                    now.put(node, child);
                    enter(child, target);
                }
            }
        } else if (!node.children.isEmpty()) {
            enter(now.get(node), null);
        }
    }

    private void leave(Node node) {
        if (node.whole) {
            for (int i = node.children.size() - 1; i >= 0; i--) {
                leave(node.children.get(i));
            }
        } else if (!node.children.isEmpty()) {
            leave(now.get(node));
        }
        note(node.exit);
        if (!node.whole && !node.children.isEmpty() && !node.remember) {
            now.put(node, node.children.get(0));
        }
    }

    private Node scope(Rule rule) {
        Node deepest = null;
        for (Node node : nodes.values()) {
            boolean fits = !node.whole && rule.from().isBelow(node) && rule.to().isBelow(node);
            if (fits && (deepest == null || node.depth() > deepest.depth())) {
                deepest = node;
            }
        }
        return deepest;
    }

    /** The rules that were taken. */
    private List<Rule> offer(Node node, String event) {
        List<Rule> taken = new ArrayList<>();
        if (!node.whole) {
            if (!node.children.isEmpty()) {
                taken.addAll(offer(now.get(node), event));
            }
        } else {
            for (Node child : node.children) {
                List<Rule> byChild = offer(child, event);
                taken.addAll(byChild);
                if (byChild.stream().anyMatch(rule -> !scope(rule).isOrIsBelow(child))) {
                    return taken;
                }
            }
        }
        if (taken.isEmpty()) {
            for (Rule rule : rules) {
                if (rule.from() == node && rule.event().equals(event) && holds(rule)) {
                    take(rule);
                    taken.add(rule);
                    break;
                }
            }
        }
        return taken;
    }

    private boolean holds(Rule rule) {
        return switch (rule.condition()) {
            case "if" -> isActive(now, rule.asked());
            case "unless" -> !isActive(now, rule.asked());
            default -> true;
        };
    }

    private void take(Rule rule) {
        Node scope = scope(rule);
        leave(now.get(scope));
        note(rule.marks());
        for (Node child : scope.children) {
            if (rule.to().isOrIsBelow(child)) {
                now.put(scope, child);
                enter(child, rule.to());
            }
        }
    }

    private String takeNotes() {
        String all = notes.toString();
        notes = new StringBuilder();
        return all.length() > 40 ? all.substring(0, 40) : all;
    }

    int compile() {
        dropTable();
        now = new HashMap<>();
        for (Node node : nodes.values()) {
            if (!node.whole && !node.children.isEmpty()) {
                now.put(node, node.children.get(0));
            }
        }
        enter(nodes.get("top"), null);
        startTrace = takeNotes();
        configurations.add(now);
        for (int c = 0; c < configurations.size(); c++) {
            cells.add(new ArrayList<>());
            for (String event : events) {
                now = new HashMap<>(configurations.get(c));
                offer(nodes.get("top"), event);
                String trace = takeNotes();
                if (!configurations.contains(now)) {
                    if (configurations.size() == 30) {
                        dropTable();
                        throw new IllegalStateException();
                    }
                    configurations.add(now);
                }
                cells.get(c).add(new Cell(configurations.indexOf(now), trace));
            }
        }
        place = 0;
        notedMarks = startTrace.length();
        return configurations.size();
    }

    int configurations() {
        return configurations.size();
    }

    int count(int what) {
        return switch (what) {
            case 0 -> nodes.size();
            case 1 -> rules.size();
            case 2 -> events.size();
            case 3 -> place;
            default -> -1;
        };
    }

    int named() {
        Node node = nodes.get(text.replaceAll("^ +| +$", ""));
        text = "";
        if (node == null) {
            throw new NoSuchElementException();
        }
        return node.number;
    }

    private Cell cell(int configuration, int event) {
        boolean there = configuration >= 0 && configuration < cells.size() && event >= 0 && event < events.size();
        return there ? cells.get(configuration).get(event) : null;
    }

    int next(int configuration, int event) {
        Cell cell = cell(configuration, event);
        if (cell == null) {
            throw new NoSuchElementException();
        }
        return cell.next();
    }

    int trace(int configuration, int event, int i) {
        Cell cell = cell(configuration, event);
        String trace = configuration == 0 && event == -1 ? startTrace : cell == null ? "" : cell.trace();
        return i >= 0 && i < trace.length() ? trace.charAt(i) : -1;
    }

    private Node numbered(int state) {
        for (Node node : nodes.values()) {
            if (node.number == state) {
                return node;
            }
        }
        return null;
    }

    boolean active(int configuration, int state) {
        Node node = numbered(state);
        boolean there = node != null && configuration >= 0 && configuration < configurations.size();
        return there && isActive(configurations.get(configuration), node);
    }

    int current(int configuration, int state) {
        Node node = numbered(state);
        if (node == null || configuration < 0 || configuration >= configurations.size()) {
            return -1;
        }
        Node child = configurations.get(configuration).get(node);
        return child == null ? -1 : child.number;
    }

    int event(int event) {
        if (configurations.isEmpty()) {
            throw new IllegalStateException();
        }
        if (event < 0 || event >= events.size()) {
            throw new IllegalArgumentException();
        }
        Cell cell = cell(place, event);
        place = cell.next();
        notedMarks += cell.trace().length();
        return place;
    }

    int noted() {
        return notedMarks;
    }
}
