import java.util.ArrayList;
import java.util.HashMap;
import java.util.HashSet;
import java.util.List;
import java.util.Map;
import java.util.Set;
import java.util.TreeMap;
import java.util.TreeSet;
import java.util.regex.Matcher;
import java.util.regex.Pattern;

/** Who calls whom in the class, read from its source, where a method's body lies between lines of like blanks. */
final class CallDepth {
    private static final Pattern HEAD = Pattern.compile("^( {4,8})(?:[a-z]+ )*[A-Za-z\\[\\]]+ (\\w+)\\(.*\\) \\{$");
    private static final Pattern CALL = Pattern.compile("(\\.)?\\b([a-z]\\w*)\\(");

    /* A method's name with its class ahead of it: those that it calls. */
    private final Map<String, Set<String>> calls = new TreeMap<>();
    private final Map<String, List<String>> homes = new HashMap<>();

    CallDepth(String bare) {
        Map<String, String> bodies = new TreeMap<>();
        String home = "WeepingPiano";
        String method = null;
        String end = "";
        for (String line : bare.split("\n")) {
            Matcher nested = Pattern.compile("^ {4}private static final class (\\w+) \\{").matcher(line);
            Matcher head = HEAD.matcher(line);
            if (nested.find()) home = nested.group(1);
            else if (method == null && head.find()) {
                method = home + "." + head.group(2);
                end = head.group(1) + "}";
                bodies.merge(method, "", String::concat);
                homes.computeIfAbsent(head.group(2), n -> new ArrayList<>()).add(home);
            } else if (line.equals(end)) method = null;
            else if (method != null) bodies.merge(method, line + "\n", String::concat);
        }
        bodies.forEach((name, body) -> calls.put(name, called(name, body)));
    }

    /** Without a point it is one of the same class; behind a point any other of that name. */
    private Set<String> called(String name, String body) {
        Set<String> all = new TreeSet<>();
        String home = name.substring(0, name.indexOf('.'));
        Matcher m = CALL.matcher(body);
        while (m.find()) {
            for (String h : homes.getOrDefault(m.group(2), List.of())) {
                String other = h + "." + m.group(2);
                boolean sameClass = h.equals(home);
                if (m.group(1) == null ? sameClass : !other.equals(name)) all.add(other);
            }
        }
        return all;
    }

    int methods() {
        return calls.size();
    }

    /** The most methods that stand open at once from this one on, if none of them is open twice. */
    private int depth(String name, Set<String> open) {
        int deepest = 0;
        open.add(name);
        for (String other : calls.get(name)) {
            if (!open.contains(other)) deepest = Math.max(deepest, depth(other, open));
        }
        open.remove(name);
        return deepest + 1;
    }

    private boolean recursive(String name) {
        return reaches(name, name);
    }

    private boolean reaches(String from, String to) {
        Set<String> seen = new HashSet<>();
        List<String> left = new ArrayList<>(calls.get(from));
        while (!left.isEmpty()) {
            String next = left.remove(left.size() - 1);
            if (next.equals(to)) return true;
            if (seen.add(next)) left.addAll(calls.get(next));
        }
        return false;
    }

    /** How deep calls go, but for a recursion's further levels. */
    int deepest() {
        int deepest = 0;
        for (String name : calls.keySet()) deepest = Math.max(deepest, depth(name, new HashSet<>()));
        return deepest;
    }

    Set<String> recursives() {
        Set<String> all = new TreeSet<>();
        for (String name : calls.keySet()) if (recursive(name)) all.add(name);
        return all;
    }
}
