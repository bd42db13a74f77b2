import java.util.ArrayList;
import java.util.Arrays;
import java.util.List;
import java.util.TreeSet;
import java.util.function.BooleanSupplier;
import java.util.function.IntSupplier;

/** A second, slow telling of the document: deep copies for undo and image, trees for the law, trying all for thought. */
final class Model {
    static final class Fault extends RuntimeException {
        private static final long serialVersionUID = 1L;
        final int kind;
        final int place;

        Fault(int kind, int place) {
            this.kind = kind;
            this.place = place;
        }
    }

    record LawLine(String word, IntSupplier tells, BooleanSupplier when) { }

    record Show(int day, int player, List<Integer> pieces) { }

    record Care(int day, String what, int n) { }

    record Entry(int day, int what, int which, int much) { }

    record Held(int from, int lasts, int tone) { }

    /** What goes back with undo. */
    static final class Now {
        int[] played = new int[12];
        int[] wept = new int[12];
        int[] tears = new int[6];
        int[] flat = new int[8];
        int water, salt, dry = 10, fire, play, wait, day, draws;
        List<Entry> book = new ArrayList<>();

        Now copy() {
            Now n = new Now();
            n.played = played.clone();
            n.wept = wept.clone();
            n.tears = tears.clone();
            n.flat = flat.clone();
            n.water = water;
            n.salt = salt;
            n.dry = dry;
            n.fire = fire;
            n.play = play;
            n.wait = wait;
            n.day = day;
            n.draws = draws;
            n.book = new ArrayList<>(book);
            return n;
        }
    }

    /** What only the image brings back. */
    static final class Told {
        List<int[]> pieces = new ArrayList<>();
        List<int[]> players = new ArrayList<>();
        List<LawLine> law = new ArrayList<>();
        List<Show> shows = new ArrayList<>();
        List<Care> cares = new ArrayList<>();
        List<int[]> likes = new ArrayList<>();
        List<Integer> tune = new ArrayList<>();
        int[] periods = {1, 1, 1, 1, 1, 1, 1, 1};
        List<Held> held = new ArrayList<>();

        Told copy() {
            Told t = new Told();
            for (int[] p : pieces) t.pieces.add(p.clone());
            for (int[] p : players) t.players.add(p.clone());
            t.law = new ArrayList<>(law);
            t.shows = new ArrayList<>(shows);
            t.cares = new ArrayList<>(cares);
            t.likes = new ArrayList<>(likes);
            t.tune = new ArrayList<>(tune);
            t.periods = periods.clone();
            t.held = new ArrayList<>(held);
            return t;
        }
    }

    Now now = new Now();
    Told told = new Told();
    Now imageNow;
    Told imageTold;
    List<Now> past = new ArrayList<>();
    StringBuilder tape = new StringBuilder();
    int fault = 0;
    int place = -1;
    boolean thought = false;
    // what the law is asked about
    int lawPlayer, lawPiece, lawString, lawMinute;

    int state(int v) {
        int w = now.draws;
        now.draws = v;
        past.clear();
        return w;
    }

    static boolean in(int v, int a, int b) {
        return a <= v && v <= b;
    }

    boolean isPiece(int p) {
        return in(p, 0, told.pieces.size() - 1);
    }

    boolean isPlayer(int p) {
        return in(p, 0, told.players.size() - 1);
    }

    int piece(int m, int s, int h) {
        if (!in(m, 1, 30) || !in(s, 0, 9) || !in(h, 0, 9) || told.pieces.size() == 12) return -1;
        told.pieces.add(new int[] {m, s, h});
        past.clear();
        return told.pieces.size() - 1;
    }

    int player(int a, int w) {
        if (!in(a, 0, 9) || !in(w, 0, 9) || told.players.size() == 6) return -1;
        told.players.add(new int[] {a, w});
        past.clear();
        return told.players.size() - 1;
    }

    boolean set(int what, int who, int v) {
        if (what == 0 && isPiece(who) && in(v, 0, 9)) told.pieces.get(who)[1] = v;
        else if (what == 1 && isPiece(who) && in(v, 0, 9)) told.pieces.get(who)[2] = v;
        else if (what == 2 && isPlayer(who) && in(v, 0, 9)) told.players.get(who)[0] = v;
        else if (what == 3 && isPlayer(who) && in(v, 0, 9)) told.players.get(who)[1] = v;
        else if (what == 4 && in(who, 0, 7) && in(v, 0, 50)) now.flat[who] = v;
        else if (what == 5 && in(v, 0, 999)) now.water = v;
        else if (what == 6 && in(v, 0, 99)) now.dry = v;
        else if (what == 7 && in(v, 0, 9)) now.fire = v;
        else return false;
        past.clear();
        return true;
    }

    void keep() {
        past.add(now.copy());
        if (past.size() > 6) past.remove(0);
    }

    void note(int what, int which, int much) {
        if (!thought && now.book.size() < 150) now.book.add(new Entry(now.day, what, which, much));
    }

    int asked(String word, int player, int piece, int string, int minute) {
        lawPlayer = player;
        lawPiece = piece;
        lawString = string;
        lawMinute = minute;
        int v = 0;
        boolean found = false;
        for (LawLine l : told.law) {
            if (!found && l.word.equals(word) && (l.when == null || l.when.getAsBoolean())) {
                v = l.tells.getAsInt();
                found = true;
            }
        }
        int[] p = told.pieces.get(piece);
        int[] q = told.players.get(player);
        if (!found) {
            v = word.equals("weeps") ? p[1] + q[0] - q[1] : word.equals("damps") ? now.water : 3 + now.fire;
        }
        return Math.max(0, Math.min(word.equals("damps") ? 1000 : 99, v));
    }

    int value(String name) {
        switch (name) {
            case "sad": return told.pieces.get(lawPiece)[1];
            case "hard": return told.pieces.get(lawPiece)[2];
            case "art": return told.players.get(lawPlayer)[0];
            case "wish": return told.players.get(lawPlayer)[1];
            case "water": return now.water;
            case "salt": return now.salt;
            case "flat": return lawString < 0 ? 0 : now.flat[lawString];
            case "string": return lawString < 0 ? 0 : lawString;
            case "fire": return now.fire;
            case "minute": return lawMinute;
            case "played": return now.played[lawPiece];
            case "day": return now.day;
            default: throw new IllegalStateException(name);
        }
    }

    int draw(int m) {
        now.draws = now.draws * 1664525 + 1013904223;
        return (int) (((now.draws & 0xffffffffL) >> 8) % m);
    }

    int playRow(int player, List<Integer> row) {
        int all = 0;
        for (int k = 0; k < row.size(); k++) {
            int piece = row.get(k);
            int wept = 0;
            for (int m = 0; m < told.pieces.get(piece)[0]; m++) {
                int w = asked("weeps", player, piece, -1, m);
                now.water = Math.min(999, now.water + w);
                now.wept[piece] += w;
                now.tears[player] += w;
                wept += w;
                for (int s = 0; s < 8; s++) {
                    int d = asked("damps", player, piece, s, m);
                    boolean damped = thought ? d >= 500 : d > 0 && draw(1000) < d;
                    if (damped) now.flat[s] = Math.min(50, now.flat[s] + 1);
                }
                now.play++;
            }
            now.played[piece]++;
            note(0, piece, wept);
            all += wept;
            if (k == row.size() - 1) break;
            int minutes = 0;
            while (now.water > now.dry && minutes < 60) {
                int s = asked("settles", player, piece, -1, minutes);
                int went = Math.min(s, now.water);
                now.water = Math.max(0, now.water - s);
                now.salt = Math.min(9999, now.salt + went / 4);
                minutes++;
                now.wait++;
            }
            if (minutes > 0) note(1, piece, minutes);
        }
        return all;
    }

    int play(int player, int piece) {
        if (!isPlayer(player) || !isPiece(piece)) return -1;
        keep();
        return playRow(player, List.of(piece));
    }

    void tend(String what, int n) {
        switch (what) {
            case "tune": note(2, n, now.flat[n]); now.flat[n] = 0; break;
            case "empty": note(3, -1, now.salt); now.salt = 0; break;
            case "child": int w = Math.min(n, now.water); note(4, -1, w); now.water -= w; break;
            case "fire": now.fire = n; break;
            default: now.dry = n; break;
        }
    }

    boolean act(int what, int who) {
        if (what == 0 && in(who, 0, 7) && now.flat[who] > 0) { keep(); tend("tune", who); return true; }
        if (what == 1 && now.salt > 0) { keep(); tend("empty", 0); return true; }
        if (what == 2 && in(who, 1, 99)) { keep(); tend("child", who); return true; }
        return false;
    }

    int day() {
        int n = 0;
        for (Care c : told.cares) if (c.day == now.day) tend(c.what, c.n);
        for (Show s : told.shows) {
            if (s.day == now.day) {
                playRow(s.player, s.pieces);
                n += s.pieces.size();
            }
        }
        int half = Math.floorDiv(now.water, 2);
        now.salt = Math.min(9999, now.salt + (now.water - half) / 4);
        now.water = half;
        now.fire = Math.max(0, now.fire - 1);
        now.day++;
        return n;
    }

    int days(int n) {
        if (!in(n, 1, 20) || now.day + n > 9999) return -1;
        int all = 0;
        for (int i = 0; i < n; i++) {
            keep();
            all += day();
        }
        return all;
    }

    int feed(int a, int b, int c, int d, int e) {
        if (tape.length() + 20 > 400) return -1;
        for (int v : new int[] {a, b, c, d, e}) {
            for (int k = 3; k >= 0; k--) tape.append((char) ((v >> (8 * k)) & 255));
        }
        return tape.length();
    }

    boolean end(int n) {
        if (n < 0 || n > tape.length()) return false;
        tape.setLength(n);
        return true;
    }

    // ---- texts

    record Token(String text, int place, boolean number) { }

    private List<Token> tokens;
    private int next;
    private int open;

    static List<Token> tokensOf(String s) {
        List<Token> all = new ArrayList<>();
        int i = 0;
        while (i < s.length()) {
            char c = s.charAt(i);
            int j = i + 1;
            if (c == ' ' || c == '\n') { i++; continue; }
            boolean letter = c < 128 && Character.isLetter(c);
            boolean digit = c >= '0' && c <= '9';
            while (j < s.length() && (letter && s.charAt(j) < 128 && Character.isLetter(s.charAt(j))
                    || digit && s.charAt(j) >= '0' && s.charAt(j) <= '9')) j++;
            String t = s.substring(i, j);
            all.add(new Token(digit && t.length() > 4 ? "?" : t, i, digit && t.length() <= 4));
            i = j;
        }
        all.add(new Token("", s.length(), false));
        return all;
    }

    Token peek() {
        return tokens.get(next);
    }

    boolean isNext(String t) {
        return peek().text.equals(t) && !t.isEmpty();
    }

    Fault wrong(int kind) {
        return new Fault(kind, peek().place);
    }

    void must(String t) {
        if (!isNext(t)) throw wrong(1);
        next++;
    }

    int number(int low, int high) {
        if (!peek().number) throw wrong(1);
        int v = Integer.parseInt(peek().text);
        if (!in(v, low, high)) throw wrong(2);
        next++;
        return v;
    }

    static final List<String> NAMES = List.of("sad", "hard", "art", "wish", "water", "salt", "flat", "string",
            "fire", "minute", "played", "day");

    IntSupplier u() {
        Token t = peek();
        if (t.number) {
            int v = Integer.parseInt(t.text);
            next++;
            return () -> v;
        }
        if (!NAMES.contains(t.text)) throw wrong(1);
        next++;
        return () -> value(t.text);
    }

    IntSupplier t() {
        IntSupplier a = u();
        while (isNext("*") || isNext("/")) {
            IntSupplier left = a;
            if (isNext("*")) {
                next++;
                IntSupplier right = u();
                a = () -> left.getAsInt() * right.getAsInt();
            } else {
                next++;
                int by = number(1, 9999);
                a = () -> left.getAsInt() / by;
            }
        }
        return a;
    }

    IntSupplier e() {
        IntSupplier a = t();
        while (isNext("+") || isNext("-")) {
            IntSupplier left = a;
            boolean plus = isNext("+");
            next++;
            IntSupplier right = t();
            a = plus ? () -> left.getAsInt() + right.getAsInt() : () -> left.getAsInt() - right.getAsInt();
        }
        return a;
    }

    BooleanSupplier c() {
        if (isNext("not") || isNext("(")) {
            boolean not = isNext("not");
            if (++open > 8) throw wrong(3);
            next++;
            BooleanSupplier inside = not ? c() : b();
            if (!not) must(")");
            open--;
            return not ? () -> !inside.getAsBoolean() : inside;
        }
        IntSupplier left = e();
        String sign = peek().text;
        if (!isNext("<") && !isNext("=") && !isNext(">")) throw wrong(1);
        next++;
        IntSupplier right = e();
        switch (sign) {
            case "<": return () -> left.getAsInt() < right.getAsInt();
            case "=": return () -> left.getAsInt() == right.getAsInt();
            default: return () -> left.getAsInt() > right.getAsInt();
        }
    }

    BooleanSupplier a() {
        BooleanSupplier x = c();
        while (isNext("and")) {
            next++;
            BooleanSupplier left = x;
            BooleanSupplier right = c();
            x = () -> left.getAsBoolean() && right.getAsBoolean();
        }
        return x;
    }

    BooleanSupplier b() {
        BooleanSupplier x = a();
        while (isNext("or")) {
            next++;
            BooleanSupplier left = x;
            BooleanSupplier right = a();
            x = () -> left.getAsBoolean() || right.getAsBoolean();
        }
        return x;
    }

    void line(int k, List<Object> lines) {
        boolean begins = k == 0 ? isNext("weeps") || isNext("damps") || isNext("settles") : isNext(k == 3 ? "piece" : "on");
        if (!begins) throw wrong(1);
        if (lines.size() == 16) throw wrong(3);
        String word = peek().text;
        next++;
        int lastPiece = told.pieces.size() - 1;
        if (k == 0) {
            IntSupplier tells = e();
            BooleanSupplier when = null;
            if (isNext("when")) {
                next++;
                when = b();
            }
            lines.add(new LawLine(word, tells, when));
        } else if (k == 3) {
            int x = number(0, lastPiece);
            must("like");
            Token at = peek();
            int y = number(0, lastPiece);
            if (x == y) throw new Fault(2, at.place);
            lines.add(new int[] {x, y});
        } else if (k == 1) {
            int day = number(0, 999);
            must("player");
            int who = number(0, told.players.size() - 1);
            must("piece");
            List<Integer> row = new ArrayList<>();
            do {
                Token at = peek();
                row.add(number(0, lastPiece));
                if (row.size() == 7) throw new Fault(3, at.place);
            } while (peek().number);
            lines.add(new Show(day, who, row));
        } else {
            int day = number(0, 999);
            String what = peek().text;
            if (!List.of("tune", "empty", "child", "fire", "dry").contains(what)) throw wrong(1);
            next++;
            int n = 0;
            if (what.equals("tune")) n = number(0, 7);
            if (what.equals("child")) n = number(1, 99);
            if (what.equals("fire")) n = number(0, 9);
            if (what.equals("dry")) n = number(0, 99);
            lines.add(new Care(day, what, n));
        }
        must(";");
    }

    int text(int k) {
        String s = tape.toString();
        tape.setLength(0);
        fault = 0;
        place = -1;
        if (!in(k, 0, 3)) return -1;
        tokens = tokensOf(s);
        next = 0;
        open = 0;
        List<Object> lines = new ArrayList<>();
        try {
            while (next < tokens.size() - 1) line(k, lines);
        } catch (Fault f) {
            fault = f.kind;
            place = f.place;
            return -1;
        }
        if (k == 0) { told.law = new ArrayList<>(); for (Object o : lines) told.law.add((LawLine) o); }
        if (k == 1) { told.shows = new ArrayList<>(); for (Object o : lines) told.shows.add((Show) o); }
        if (k == 2) { told.cares = new ArrayList<>(); for (Object o : lines) told.cares.add((Care) o); }
        if (k == 3) { told.likes = new ArrayList<>(); for (Object o : lines) told.likes.add((int[]) o); }
        if (k == 1 || k == 2) past.clear();
        return lines.size();
    }

    int fault(int what) {
        return what == 0 ? fault : what == 1 ? place : -1;
    }

    int of(int piece, int what) {
        if (!isPiece(piece)) return -1;
        if (in(what, 0, 2)) return told.pieces.get(piece)[what];
        if (what == 3) return now.played[piece];
        if (what == 4) return now.wept[piece];
        if (what == 5) {
            int set = 0;
            for (int[] l : told.likes) {
                if (l[0] == piece) set |= 1 << l[1];
                if (l[1] == piece) set |= 1 << l[0];
            }
            return set;
        }
        return what >= 10 && isPlayer(what - 10) ? asked("weeps", what - 10, piece, -1, 0) : -1;
    }

    int who(int player, int what) {
        if (!isPlayer(player)) return -1;
        return in(what, 0, 1) ? told.players.get(player)[what] : what == 2 ? now.tears[player] : -1;
    }

    int string(int s, int what) {
        return !in(s, 0, 7) ? -1 : what == 0 ? now.flat[s] : what == 1 ? told.periods[s] : -1;
    }

    int damps(int player, int piece, int s) {
        return isPlayer(player) && isPiece(piece) && in(s, 0, 7) ? asked("damps", player, piece, s, 0) : -1;
    }

    int settles(int player, int piece) {
        return isPlayer(player) && isPiece(piece) ? asked("settles", player, piece, -1, 0) : -1;
    }

    int book(int i, int what) {
        if (!in(i, 0, now.book.size() - 1)) return -2;
        Entry x = now.book.get(i);
        return what == 0 ? x.day : what == 1 ? x.what : what == 2 ? x.which : what == 3 ? x.much : -2;
    }

    int goes(int n, int what) {
        if (!in(n, 1, 20) || !in(what, 0, 3)) return -1;
        Now real = now;
        now = now.copy();
        thought = true;
        for (int i = 0; i < n; i++) day();
        Now then = now;
        now = real;
        thought = false;
        return what == 0 ? then.water : what == 1 ? then.salt : what == 2 ? Arrays.stream(then.flat).sum() : then.wait;
    }

    int lasts(int player, int pieces, int what) {
        List<Integer> all = new ArrayList<>();
        for (int i = 0; i < 32; i++) if ((pieces >>> i & 1) == 1) all.add(i);
        if (!isPlayer(player) || !in(all.size(), 1, 5) || !isPiece(all.get(all.size() - 1))) return -1;
        if (what != 0 && !in(what, 10, 9 + all.size())) return -1;
        List<List<Integer>> orders = new ArrayList<>();
        permute(all, new ArrayList<>(), orders);
        int best = Integer.MAX_VALUE;
        List<Integer> first = null;
        for (List<Integer> o : orders) {
            Now real = now;
            now = now.copy();
            thought = true;
            playRow(player, o);
            int minutes = now.play - real.play + now.wait - real.wait;
            now = real;
            thought = false;
            if (minutes < best) {
                best = minutes;
                first = o;
            }
        }
        return what == 0 ? best : first.get(what - 10);
    }

    static void permute(List<Integer> left, List<Integer> row, List<List<Integer>> out) {
        if (left.isEmpty()) out.add(new ArrayList<>(row));
        for (int i = 0; i < left.size(); i++) {
            List<Integer> rest = new ArrayList<>(left);
            row.add(rest.remove(i));
            permute(rest, row, out);
            row.remove(row.size() - 1);
        }
    }

    static TreeSet<Integer> tonesOf(int set, int moved, boolean turned) {
        TreeSet<Integer> t = new TreeSet<>();
        for (int i = 0; i < 12; i++) if ((set >> i & 1) == 1) t.add(((turned ? 12 - i : i) + moved) % 12);
        return t;
    }

    int chords(int a, int b, int what) {
        if (!in(a, 1, 4095) || !in(what, 0, 4) || what < 2 && !in(b, 1, 4095)) return -1;
        if (what < 2) {
            for (int s = 0; s < 12; s++) if (tonesOf(a, s, what == 1).equals(tonesOf(b, 0, false))) return s;
            return -1;
        }
        if (what < 4) {
            int most = -1;
            int by = 0;
            for (int s = 1; s < 12; s++) {
                TreeSet<Integer> both = tonesOf(a, s, false);
                both.retainAll(tonesOf(a, 0, false));
                if (both.size() > most) { most = both.size(); by = s; }
            }
            return what == 2 ? most : by;
        }
        int least = 99;
        for (int t : tonesOf(a, 0, false)) {
            int far = 0;
            for (int o : tonesOf(a, 0, false)) far = Math.max(far, (o - t + 12) % 12);
            least = Math.min(least, far);
        }
        return least;
    }

    int tone(int v) {
        if (v == -1) told.tune.clear();
        else if (!in(v, 0, 60) || told.tune.size() == 16) return -1;
        else told.tune.add(v);
        return told.tune.size();
    }

    int tune(int what) {
        List<Integer> t = told.tune;
        int n = t.size();
        if (in(what, 0, 1)) {
            for (int len = n; len >= 2; len--) {
                for (int i = 0; i + len <= n; i++) {
                    for (int j = 0; j + len <= n; j++) {
                        boolean same = i != j;
                        for (int k = 0; k < len && same; k++) same = t.get(i + k) - t.get(i) == t.get(j + k) - t.get(j);
                        if (same) return what == 0 ? len : i;
                    }
                }
            }
            return what == 0 ? 0 : -1;
        }
        if (what == 2) {
            int best = 0;
            for (int i = 0; i < n; i++) {
                int j = i;
                while (j + 1 < n && t.get(j + 1) > t.get(j)) j++;
                best = Math.max(best, j - i + 1);
            }
            return best;
        }
        if (what != 3 && !in(what, 10, 9 + n)) return -1;
        // Rows of fingers kept as whole texts: of equal cost the first row wins.
        int[] cost = new int[6];
        String[] ways = {"", "1", "2", "3", "4", "5"};
        for (int i = 1; i < n; i++) {
            int[] newCost = new int[6];
            String[] newWays = new String[6];
            for (int g = 1; g <= 5; g++) {
                newCost[g] = Integer.MAX_VALUE;
                for (int f = 1; f <= 5; f++) {
                    int c = cost[f] + Math.abs((t.get(i) - t.get(i - 1)) - 2 * (g - f));
                    if (f == g && !t.get(i).equals(t.get(i - 1))) c += 9;
                    if (c < newCost[g] || c == newCost[g] && (ways[f] + g).compareTo(newWays[g]) < 0) {
                        newCost[g] = c;
                        newWays[g] = ways[f] + g;
                    }
                }
            }
            cost = newCost;
            ways = newWays;
        }
        int best = 1;
        for (int f = 2; f <= 5; f++) {
            if (cost[f] < cost[best] || cost[f] == cost[best] && ways[f].compareTo(ways[best]) < 0) best = f;
        }
        return what == 3 ? cost[best] : ways[best].charAt(what - 10) - '0';
    }

    int canon(int d, int h, int what) {
        if (!in(d, 1, 15) || !in(h, 0, 12) || !in(what, 0, 1)) return -1;
        int both = 0;
        int sweet = 0;
        for (int place = 0; place < 40; place++) {
            if (place < told.tune.size() && in(place - d, 0, told.tune.size() - 1)) {
                both++;
                int apart = Math.abs(told.tune.get(place) - (told.tune.get(place - d) + h));
                if (List.of(3, 4, 7, 8, 9, 0).contains(apart % 12)) sweet++;
            }
        }
        return what == 0 ? both : sweet;
    }

    static long fill(int n, int lengths, int last, boolean unlike) {
        if (n == 0) return 1;
        long ways = 0;
        for (int l = 1; l <= 8 && l <= n; l++) {
            if ((lengths >> (l - 1) & 1) == 1 && !(unlike && l == last)) ways += fill(n - l, lengths, l, unlike);
        }
        return ways;
    }

    int bar(int n, int lengths, int what) {
        if (!in(n, 1, 24) || !in(lengths, 1, 255) || !in(what, 0, 1)) return -1;
        return (int) (fill(n, lengths, 0, what == 1) % 1000000007);
    }

    boolean period(int s, int v) {
        if (!in(s, 0, 7) || !in(v, 1, 99)) return false;
        told.periods[s] = v;
        return true;
    }

    int beats(int s, int t) {
        if (s != -1) {
            if (!in(s, 0, 7) || !in(t, 0, 7)) return -1;
            int n = 1;
            while (n % told.periods[s] != 0 || n % told.periods[t] != 0) n++;
            return n;
        }
        java.math.BigInteger all = java.math.BigInteger.ONE;
        for (int p : told.periods) {
            java.math.BigInteger b = java.math.BigInteger.valueOf(p);
            all = all.multiply(b).divide(all.gcd(b));
        }
        return all.mod(java.math.BigInteger.valueOf(1000000007)).intValue();
    }

    int pedal(int minute, int lasts, int tone) {
        if (minute == -1) told.held.clear();
        else if (!in(minute, 0, 59) || !in(lasts, 1, 30) || !in(tone, 0, 60) || told.held.size() == 9) return -1;
        else told.held.add(new Held(minute, lasts, tone));
        return told.held.size();
    }

    int mud(int what) {
        if (!in(what, 0, 2)) return -1;
        int most = 0;
        int first = 0;
        boolean[][] clash = new boolean[9][9];
        int clashes = 0;
        for (int m = 0; m < 100; m++) {
            int sounding = 0;
            for (int i = 0; i < told.held.size(); i++) {
                Held x = told.held.get(i);
                if (!in(m, x.from, x.from + x.lasts - 1)) continue;
                sounding++;
                for (int j = 0; j < i; j++) {
                    Held y = told.held.get(j);
                    if (in(m, y.from, y.from + y.lasts - 1) && !clash[i][j]
                            && List.of(1, 2, 10, 11).contains(Math.abs(x.tone - y.tone) % 12)) {
                        clash[i][j] = true;
                        clashes++;
                    }
                }
            }
            if (sounding > most) {
                most = sounding;
                first = m;
            }
        }
        return what == 0 ? most : what == 1 ? first : clashes;
    }

    int whose(int v, int what) {
        if (!in(v, 1, 999) || !in(what, 0, 2)) return -1;
        int n = 0;
        int least = -1;
        int all = -1;
        for (int set = 0; set < 1 << told.pieces.size(); set++) {
            int sum = 0;
            for (int i = 0; i < 12; i++) if ((set >> i & 1) == 1) sum += now.wept[i];
            if (sum == v) {
                if (n == 0) least = set;
                n++;
                all &= set;
            }
        }
        return what == 0 ? n : what == 1 ? least : n == 0 ? 0 : all;
    }

    private int haveBest;
    private int[] haveWay;

    /** All ways in their row, cut where not even all that is left could come to more. */
    void tryHave(int piece, int had, int[] room, int[] way) {
        int pieces = told.pieces.size();
        if (had + pieces - piece <= haveBest) return;
        if (piece == pieces) {
            haveBest = had;
            haveWay = way.clone();
            return;
        }
        for (int p = 0; p < told.players.size(); p++) {
            if (room[p] > 0 && told.pieces.get(piece)[2] <= told.players.get(p)[0]) {
                room[p]--;
                way[piece] = p;
                tryHave(piece + 1, had + 1, room, way);
                room[p]++;
            }
        }
        way[piece] = -1;
        tryHave(piece + 1, had, room, way);
    }

    int have(int n, int what) {
        if (!in(n, 1, 12) || what != 0 && (what < 10 || !isPiece(what - 10))) return -1;
        int[] room = new int[6];
        Arrays.fill(room, n);
        haveBest = -1;
        tryHave(0, 0, room, new int[12]);
        return what == 0 ? haveBest : haveWay[what - 10];
    }

    int alike(int piece) {
        int n = told.pieces.size();
        boolean[][] near = new boolean[12][12];
        for (int i = 0; i < n; i++) near[i][i] = true;
        for (int[] l : told.likes) near[l[0]][l[1]] = near[l[1]][l[0]] = true;
        for (int k = 0; k < n; k++) for (int i = 0; i < n; i++) for (int j = 0; j < n; j++) near[i][j] |= near[i][k] && near[k][j];
        TreeSet<Integer> groups = new TreeSet<>();
        int[] of = new int[12];
        for (int i = 0; i < n; i++) {
            for (int j = 0; j < n; j++) if (near[i][j]) of[i] |= 1 << j;
            groups.add(of[i]);
        }
        return piece == -1 ? groups.size() : isPiece(piece) ? of[piece] : -1;
    }

    int pages(int n, int a, int b, int what) {
        if (!in(n, 1, 60) || !in(a, 1, 9) || !in(b, 1, 9) || !in(what, 0, 1)) return -1;
        boolean[] first = new boolean[n + 1];
        boolean[] second = new boolean[n + 1];
        for (int p = a; p <= n; p += a) first[p] = true;
        for (int p = b; p <= n; p += b) second[p] = true;
        int one = 0;
        int none = 0;
        for (int p = 1; p <= n; p++) {
            if (first[p] != second[p]) one++;
            if (!first[p] && !second[p]) none++;
        }
        return what == 0 ? one : none;
    }

    static int worth(int flat, int[] known) {
        if (known[flat] >= 0) return known[flat];
        TreeSet<Integer> reached = new TreeSet<>();
        for (int k : new int[] {1, 2, 4}) if (k <= flat) reached.add(worth(flat - k, known));
        int w = 0;
        while (reached.contains(w)) w++;
        return known[flat] = w;
    }

    int game(int what) {
        if (!in(what, 0, 1)) return -1;
        int[] known = new int[51];
        Arrays.fill(known, -1);
        for (int s = 0; s < 8; s++) {
            for (int k : new int[] {1, 2, 4}) {
                if (k > now.flat[s]) continue;
                int x = 0;
                for (int o = 0; o < 8; o++) x ^= worth(o == s ? now.flat[o] - k : now.flat[o], known);
                if (x == 0) return what == 0 ? s : k;
            }
        }
        return -1;
    }

    boolean undo() {
        if (past.isEmpty()) return false;
        now = past.remove(past.size() - 1);
        return true;
    }

    boolean image(boolean taken) {
        if (taken) {
            imageNow = now.copy();
            imageTold = told.copy();
            return true;
        }
        if (imageNow == null) return false;
        now = imageNow.copy();
        told = imageTold.copy();
        past.clear();
        return true;
    }

    int look(int what) {
        int[] all = {told.pieces.size(), told.players.size(), now.water, now.salt, now.dry, now.fire, now.play, now.wait,
            now.day, now.book.size(), now.draws, told.law.size(), told.shows.size(), told.cares.size(), told.likes.size(),
            past.size()};
        return in(what, 0, 15) ? all[what] : -1;
    }
}
