import java.util.ArrayList;
import java.util.HashMap;
import java.util.LinkedHashSet;
import java.util.List;
import java.util.Map;
import java.util.Random;
import java.util.Set;

/**
 * The document's own rules for a text, read as they are printed: {..} as often as you like, [..] once or not,
 * (..|..) one of these; '( ' and ' )' with a blank inside are signs. Says how far a row of tokens may stand.
 */
final class Grammar {
    private final Map<String, List<List<String>>> rules = new HashMap<>();
    private final String start;
    private List<String> signs;
    private int at;
    private int made = 0;

    /** Rules as "NAME = right side", the first one is the text. */
    Grammar(String... printed) {
        start = printed[0].substring(0, printed[0].indexOf(" = "));
        for (String rule : printed) {
            int is = rule.indexOf(" = ");
            signs = signsOf(rule.substring(is + 3));
            at = 0;
            rules.put(rule.substring(0, is), choices());
            if (at != signs.size()) throw new IllegalStateException("not read to its end: " + rule);
        }
    }

    private static List<String> signsOf(String s) {
        List<String> all = new ArrayList<>();
        for (int i = 0; i < s.length();) {
            char c = s.charAt(i);
            int to = i + 1;
            if (c == ' ') {
                i++;
                continue;
            }
            boolean sign = c == '(' && i + 1 < s.length() && s.charAt(i + 1) == ' ' || c == ')' && s.charAt(i - 1) == ' ';
            while (Character.isLetter(c) && to < s.length() && Character.isLetter(s.charAt(to))) to++;
            boolean mark = "{}[]|".indexOf(c) >= 0 || (c == '(' || c == ')') && !sign;
            all.add(mark ? "mark " + c : s.substring(i, to));
            i = to;
        }
        return all;
    }

    private boolean mark(char c) {
        boolean there = at < signs.size() && signs.get(at).equals("mark " + c);
        if (there) at++;
        return there;
    }

    private List<List<String>> choices() {
        List<List<String>> all = new ArrayList<>();
        do {
            all.add(row());
        } while (mark('|'));
        return all;
    }

    private List<String> row() {
        List<String> row = new ArrayList<>();
        while (at < signs.size() && !"|}])".contains(signs.get(at).replace("mark ", "")) || at < signs.size() && signs.get(at).equals(")")) {
            if (mark('{')) {
                row.add(named(choices(), true, true));
                mark('}');
            } else if (mark('[')) {
                row.add(named(choices(), true, false));
                mark(']');
            } else if (mark('(')) {
                row.add(named(choices(), false, false));
                mark(')');
            } else {
                row.add(signs.get(at));
                at++;
            }
        }
        return row;
    }

    private String named(List<List<String>> choices, boolean orNone, boolean again) {
        String name = "#" + made++;
        List<List<String>> all = new ArrayList<>();
        for (List<String> choice : choices) {
            List<String> c = new ArrayList<>(choice);
            if (again) c.add(name);
            all.add(c);
        }
        if (orNone) all.add(new ArrayList<>());
        rules.put(name, all);
        return name;
    }

    /** Names in capitals that have no rule are NUMBERS. */
    private boolean is(String sign, String token) {
        return sign.equals(token) || token.equals("NUMBER") && sign.matches("[A-Z]+") && !rules.containsKey(sign);
    }

    private record Item(String rule, int choice, int dot, int from) {
    }

    /** How many of the tokens may stand one behind the other; one more if the text may also end there. */
    int stands(List<String> tokens) {
        List<Set<Item>> chart = new ArrayList<>();
        chart.add(new LinkedHashSet<>());
        for (int c = 0; c < rules.get(start).size(); c++) chart.get(0).add(new Item(start, c, 0, 0));
        for (int i = 0;; i++) {
            boolean ends = complete(chart, i);
            if (i == tokens.size()) return ends ? i + 1 : i;
            Set<Item> next = new LinkedHashSet<>();
            for (Item t : chart.get(i)) {
                List<String> row = rules.get(t.rule).get(t.choice);
                if (t.dot < row.size() && !rules.containsKey(row.get(t.dot)) && is(row.get(t.dot), tokens.get(i))) {
                    next.add(new Item(t.rule, t.choice, t.dot + 1, t.from));
                }
            }
            if (next.isEmpty()) return i;
            chart.add(next);
        }
    }

    /** Adds what may begin and what is ended at a place, until nothing is new; whether the whole text may end there. */
    private boolean complete(List<Set<Item>> chart, int i) {
        Set<Item> here = chart.get(i);
        boolean ends = false;
        for (int before = -1; before != here.size();) {
            before = here.size();
            for (Item t : new ArrayList<>(here)) {
                List<String> row = rules.get(t.rule).get(t.choice);
                if (t.dot == row.size()) {
                    ends |= t.rule.equals(start) && t.from == 0;
                    for (Item u : new ArrayList<>(chart.get(t.from))) {
                        List<String> outer = rules.get(u.rule).get(u.choice);
                        if (u.dot < outer.size() && outer.get(u.dot).equals(t.rule)) here.add(new Item(u.rule, u.choice, u.dot + 1, u.from));
                    }
                } else if (rules.containsKey(row.get(t.dot))) {
                    for (int c = 0; c < rules.get(row.get(t.dot)).size(); c++) here.add(new Item(row.get(t.dot), c, 0, i));
                }
            }
        }
        return ends;
    }

    /** A row of tokens by the rules; the deeper, the sooner the shortest choice. */
    void make(Random random, String sign, int depth, List<String> out) {
        if (!rules.containsKey(sign)) {
            out.add(sign.matches("[A-Z]+") ? "NUMBER" : sign);
            return;
        }
        List<List<String>> choices = rules.get(sign);
        int c = random.nextInt(choices.size());
        if (depth > 12) c = choices.size() > 1 && sign.startsWith("#") ? choices.size() - 1 : 0;
        for (String part : choices.get(c)) make(random, part, depth + 1, out);
    }

    List<String> text(Random random) {
        List<String> out = new ArrayList<>();
        make(random, start, 0, out);
        return out;
    }
}
