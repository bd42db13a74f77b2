import java.util.ArrayList;
import java.util.List;
import java.util.Random;

/** Random runs of calls, each answered by the class and by the model. */
public final class ModelTest {
    private final Random random;
    private final WeepingPiano x = new WeepingPiano();
    private final Model m = new Model();
    private final List<String> calls = new ArrayList<>();
    private final int seed;
    private int told = 0;

    private ModelTest(int seed) {
        this.seed = seed;
        random = new Random(seed);
    }

    private int r(int a, int b) {
        return a + random.nextInt(b - a + 1);
    }

    /** Mostly within bounds, now and then just or far beyond them. */
    private int about(int a, int b) {
        switch (random.nextInt(24)) {
            case 0: return a - 1;
            case 1: return b + 1;
            case 2: return random.nextBoolean() ? a : b;
            case 3: return random.nextInt(8) == 0 ? random.nextInt() : r(a, b);
            default: return r(a, b);
        }
    }

    private void same(String call, int got, int want) {
        calls.add(call + " = " + got);
        int before = Check.wrongSoFar();
        Check.due("seed " + seed + " call " + calls.size() + ": " + call, got, want);
        if (Check.wrongSoFar() > before && told++ == 0) {
            for (int i = Math.max(0, calls.size() - 12); i < calls.size(); i++) {
                System.out.println("    " + calls.get(i));
            }
        }
    }

    private void same(String call, boolean got, boolean want) {
        same(call, got ? 1 : 0, want ? 1 : 0);
    }

    private String unit() {
        return random.nextInt(3) == 0 ? "" + r(0, random.nextBoolean() ? 9 : 1200)
                : Model.NAMES.get(random.nextInt(Model.NAMES.size()));
    }

    private String blank() {
        return random.nextInt(4) == 0 ? " " : random.nextInt(30) == 0 ? "\n" : "";
    }

    private String expression() {
        StringBuilder s = new StringBuilder(unit());
        for (int n = random.nextInt(3); n > 0; n--) {
            String op = "+-*/".substring(random.nextInt(4)).substring(0, 1);
            s.append(blank()).append(op).append(blank());
            s.append(op.equals("/") ? "" + r(random.nextInt(40) == 0 ? 0 : 1, 12) : unit());
        }
        return s.toString();
    }

    private String condition(int depth) {
        switch (random.nextInt(depth > 3 ? 1 : 6)) {
            case 1: return "not " + condition(depth + 1);
            case 2: return "(" + condition(depth + 1) + ")";
            case 3: return condition(depth + 1) + " and " + condition(depth + 1);
            case 4: return condition(depth + 1) + " or " + condition(depth + 1);
            default: return expression() + blank() + "<=>".substring(random.nextInt(3)).substring(0, 1) + blank() + expression();
        }
    }

    private String line(int k) {
        int pieces = Math.max(1, m.told.pieces.size());
        int players = Math.max(1, m.told.players.size());
        int day = m.now.day + random.nextInt(4);
        if (k == 0) {
            String word = List.of("weeps", "damps", "settles").get(random.nextInt(3));
            return word + " " + expression() + (random.nextInt(3) > 0 ? " when " + condition(0) : "") + ";";
        }
        if (k == 1) {
            StringBuilder s = new StringBuilder("on " + day + " player " + random.nextInt(players) + " piece");
            for (int n = random.nextInt(5); n >= 0; n--) s.append(" ").append(random.nextInt(pieces));
            return s + blank() + ";";
        }
        if (k == 2) {
            String[] whats = {"tune " + r(0, 7), "empty", "child " + r(1, 99), "fire " + r(0, 9), "dry " + r(0, 99)};
            return "on " + day + " " + whats[random.nextInt(5)] + blank() + ";";
        }
        int a = random.nextInt(pieces);
        return "piece " + a + " like " + (pieces > 1 ? (a + r(1, pieces - 1)) % pieces : 1) + ";";
    }

    private String text(int k) {
        StringBuilder s = new StringBuilder();
        int lines = random.nextInt(10) == 0 ? r(14, 18) : r(0, 6);
        for (int i = 0; i < lines; i++) {
            String l = line(k);
            if (s.length() + l.length() <= 390) s.append(l).append(blank());
        }
        if (random.nextInt(3) == 0 && s.length() > 0) {
            int at = random.nextInt(s.length());
            String[] marks = {"", ";", " ", "(", ")", "not ", "9", "0", "12345", "q", "A", "/0", " sad", " on ", "\t", ".", "\u00e9", "7 "};
            s.replace(at, Math.min(s.length(), at + random.nextInt(3)), marks[random.nextInt(marks.length)]);
        }
        if (random.nextInt(12) == 0) s.setLength(random.nextInt(s.length() + 1));
        return s.length() > 400 ? s.substring(0, 400) : s.toString();
    }

    private void tellText(int k) {
        String s = text(k);
        for (int from = 0; from < s.length(); from += 20) {
            int[] v = Check.fiveFrom(s, from);
            same("feed", x.feed(v[0], v[1], v[2], v[3], v[4]), m.feed(v[0], v[1], v[2], v[3], v[4]));
        }
        same("end", x.end(s.length()), m.end(s.length()));
        int kk = random.nextInt(60) == 0 ? about(0, 3) : k;
        same("text(" + kk + ") of '" + s + "'", x.text(kk), m.text(kk));
        same("fault(0)", x.fault(0), m.fault(0));
        same("fault(1)", x.fault(1), m.fault(1));
    }

    private void begin() {
        for (int n = r(0, 5); n > 0; n--) {
            int a = r(1, 12), b = r(0, 9), c = r(0, 9);
            same("piece", x.piece(a, b, c), m.piece(a, b, c));
        }
        for (int n = r(0, 3); n > 0; n--) {
            int a = r(0, 9), b = r(0, 9);
            same("player", x.player(a, b), m.player(a, b));
        }
        int v = random.nextInt();
        same("state", x.state(v), m.state(v));
    }

    private int aPiece() {
        return about(0, Math.max(0, m.told.pieces.size() - 1));
    }

    private int aPlayer() {
        return about(0, Math.max(0, m.told.players.size() - 1));
    }

    private void change() {
        int a, b, c;
        switch (random.nextInt(16)) {
            case 0: a = about(1, 30); b = about(0, 9); c = about(0, 9);
                same("piece(" + a + "," + b + "," + c + ")", x.piece(a, b, c), m.piece(a, b, c)); break;
            case 1: a = about(0, 9); b = about(0, 9);
                same("player(" + a + "," + b + ")", x.player(a, b), m.player(a, b)); break;
            case 2: a = about(0, 7); b = about(0, a < 2 ? 4 : 7);
                c = about(0, a < 4 ? 9 : a == 4 ? 50 : a == 5 ? 999 : a == 6 ? 99 : 9);
                same("set(" + a + "," + b + "," + c + ")", x.set(a, b, c), m.set(a, b, c)); break;
            case 3: case 4: case 5: a = aPlayer(); b = aPiece();
                same("play(" + a + "," + b + ")", x.play(a, b), m.play(a, b)); break;
            case 6: a = about(0, 2); b = about(0, a == 0 ? 7 : 99);
                same("act(" + a + "," + b + ")", x.act(a, b), m.act(a, b)); break;
            case 7: case 8: a = random.nextInt(3) == 0 ? about(1, 20) : r(1, 3);
                same("days(" + a + ")", x.days(a), m.days(a)); break;
            case 9: same("undo()", x.undo(), m.undo()); break;
            case 10: boolean t = random.nextInt(3) > 0;
                if (random.nextInt(3) == 0) same("image(" + t + ")", x.image(t), m.image(t)); break;
            case 11: a = about(0, 60); same("tone(" + a + ")", x.tone(a), m.tone(a)); break;
            case 12: a = about(0, 7); b = about(1, 99);
                same("period(" + a + "," + b + ")", x.period(a, b), m.period(a, b)); break;
            case 13: a = about(0, 59); b = about(1, 30); c = about(0, 60);
                same("pedal(" + a + "," + b + "," + c + ")", x.pedal(a, b, c), m.pedal(a, b, c)); break;
            case 14: a = random.nextInt(); if (random.nextInt(4) == 0) same("state", x.state(a), m.state(a)); break;
            default: tellText(random.nextInt(4)); break;
        }
    }

    private void ask() {
        int a = 0, b = 0, c = 0, d = 0;
        switch (random.nextInt(21)) {
            case 0: a = aPiece(); b = about(0, 16); same("of(" + a + "," + b + ")", x.of(a, b), m.of(a, b)); break;
            case 1: a = aPlayer(); b = about(0, 2); same("who", x.who(a, b), m.who(a, b)); break;
            case 2: a = about(0, 7); b = about(0, 1); same("string", x.string(a, b), m.string(a, b)); break;
            case 3: a = aPlayer(); b = aPiece(); c = about(0, 7); same("damps", x.damps(a, b, c), m.damps(a, b, c)); break;
            case 4: a = aPlayer(); b = aPiece(); same("settles", x.settles(a, b), m.settles(a, b)); break;
            case 5: a = about(0, Math.max(0, m.now.book.size() - 1)); b = about(0, 3);
                same("book(" + a + "," + b + ")", x.book(a, b), m.book(a, b)); break;
            case 6: a = about(1, 20); b = about(0, 3); same("goes(" + a + "," + b + ")", x.goes(a, b), m.goes(a, b)); break;
            case 7: a = aPlayer(); b = r(0, (1 << Math.min(12, m.told.pieces.size() + 1)) - 1);
                c = random.nextInt(3) == 0 ? 0 : about(10, 14);
                same("lasts(" + a + "," + b + "," + c + ")", x.lasts(a, b, c), m.lasts(a, b, c)); break;
            case 8: a = about(1, 4095); c = about(0, 4);
                int s = r(0, 11);
                b = random.nextBoolean() ? about(1, 4095) : (a << s | a >>> (12 - s)) & 4095;
                same("chords(" + a + "," + b + "," + c + ")", x.chords(a, b, c), m.chords(a, b, c)); break;
            case 9: a = random.nextBoolean() ? about(0, 3) : about(10, 25); same("tune(" + a + ")", x.tune(a), m.tune(a)); break;
            case 10: a = about(1, 15); b = about(0, 12); c = about(0, 1);
                same("canon(" + a + "," + b + "," + c + ")", x.canon(a, b, c), m.canon(a, b, c)); break;
            case 11: a = about(1, 14); b = about(1, 255); c = about(0, 1);
                same("bar(" + a + "," + b + "," + c + ")", x.bar(a, b, c), m.bar(a, b, c)); break;
            case 12: a = about(0, 7); b = about(0, 7); same("beats(" + a + "," + b + ")", x.beats(a, b), m.beats(a, b)); break;
            case 13: a = about(0, 2); same("mud(" + a + ")", x.mud(a), m.mud(a)); break;
            case 14: a = aPiece();
                a = m.isPiece(a) && m.now.wept[a] > 0 ? m.now.wept[a] : about(1, 999); b = about(0, 2);
                same("whose(" + a + "," + b + ")", x.whose(a, b), m.whose(a, b)); break;
            case 15: a = random.nextBoolean() ? r(1, 3) : about(1, 12); b = random.nextInt(3) == 0 ? 0 : about(10, 21);
                same("have(" + a + "," + b + ")", x.have(a, b), m.have(a, b)); break;
            case 16: a = aPiece(); same("alike(" + a + ")", x.alike(a), m.alike(a)); break;
            case 17: a = about(1, 60); b = about(1, 9); c = about(1, 9); d = about(0, 1);
                same("pages", x.pages(a, b, c, d), m.pages(a, b, c, d)); break;
            case 18: a = about(0, 1); same("game(" + a + ")", x.game(a), m.game(a)); break;
            case 19: a = about(-5, 420); if (random.nextInt(6) == 0) same("end(" + a + ")", x.end(a), m.end(a)); break;
            default: a = about(0, 1); same("fault", x.fault(a), m.fault(a)); break;
        }
    }

    private void lookAtAll() {
        for (int what = -1; what <= 16; what++) same("look(" + what + ")", x.look(what), m.look(what));
        for (int s = 0; s < 8; s++) same("string", x.string(s, 0), m.string(s, 0));
        for (int p = 0; p < 12; p++) {
            for (int what = 0; what <= 15; what++) same("of(" + p + "," + what + ")", x.of(p, what), m.of(p, what));
        }
    }

    /** An object is used for 512 calls at most: a text takes 24 and the looking at all 218, so the rest ends at 270. */
    private void go() {
        begin();
        for (int i = 0; i < 300 && calls.size() < 270; i++) {
            if (random.nextInt(5) < 2) change();
            else ask();
        }
        lookAtAll();
        Check.due("calls of one object: " + calls.size(), calls.size() <= 512, true);
    }

    public static void main(String[] args) {
        int runs = args.length > 0 ? Integer.parseInt(args[0]) : 1500;
        for (int seed = 0; seed < runs; seed++) new ModelTest(seed).go();
        Check.close();
    }
}
