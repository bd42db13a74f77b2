import java.util.ArrayList;
import java.util.Arrays;
import java.util.List;

/** The document's "Terms" 4: what is in thought, what is undone, the image. */
final class DocThought extends Edge {

    private static WeepingPiano tune(int... tones) {
        WeepingPiano x = new WeepingPiano();
        for (int v : tones) x.tone(v);
        return x;
    }

    private static int set(int... those) {
        int set = 0;
        for (int v : those) set |= 1 << v;
        return set;
    }

    /** A PIECE of one minute for each, which has wept so much. */
    private static WeepingPiano wept(int... much) {
        WeepingPiano x = piano(much.length, 1);
        for (int i = 0; i < much.length; i++) {
            for (int left = much[i]; left > 0; left -= 99) {
                Check.tell(x, 0, "weeps " + Math.min(99, left) + ";damps 0;");
                x.play(0, i);
            }
        }
        return x;
    }

    // GOES, LASTS

    @Says("4. IN THOUGHT (nothing of it stays; no DRAWS: a STRING is damped, if damps is 500 at least).")
    static void p19InThought() {
        WeepingPiano x = lawful("weeps 20;damps 506-string;settles 3;");
        told(x, 1, "on 0 player 0 piece 0 1 0;");
        told(x, 2, "on 0 fire 5;on 0 dry 1;");
        x.state(5);
        int[] before = new int[16];
        for (int i = 0; i < 16; i++) before[i] = x.look(i);
        due("seven strings in three minutes", x.goes(1, 2), 21);
        due("a recital", x.lasts(0, 3, 0), 6);
        for (int i = 0; i < 16; i++) due("look(" + i + ")", x.look(i), before[i]);
        for (int s = 0; s < 8; s++) due("flat", x.string(s, 0), 0);
        due("pieces and player", x.of(0, 3) + x.of(0, 4) + x.of(1, 3) + x.of(1, 4) + x.who(0, 2), 0);
    }

    @Says("GOES for n (1 .. 20) DAYS: WATER, SALT, FLAT of all, minutes of waiting then.")
    static void p19DaysInThoughtAreAsDays() {
        WeepingPiano x = growing();
        WeepingPiano y = growing();
        for (int n = 1; n <= 20; n++) {
            y.days(1);
            due("water of day " + n, x.goes(n, 0), y.look(2));
            due("salt of day " + n, x.goes(n, 1), y.look(3));
            int flat = 0;
            for (int s = 0; s < 8; s++) flat += y.string(s, 0);
            due("flat of day " + n, x.goes(n, 2), flat);
            due("waiting of day " + n, x.goes(n, 3), y.look(7));
        }
        due("it waited", y.look(7) > 0, true);
        answered("n", v -> x.goes(v, 0), 1, 20);
        due("from then on nothing is played, and waiting stays as it was", y.goes(5, 3), y.look(7));
    }

    /** With no chance in it, so that thought and play are alike. */
    private static WeepingPiano growing() {
        WeepingPiano x = new WeepingPiano();
        x.piece(3, 7, 0);
        x.piece(5, 2, 0);
        x.player(6, 1);
        told(x, 0, "damps 1000 when string>3;damps 0;settles 4+fire;");
        told(x, 1, "on 0 player 0 piece 0 1;on 4 player 0 piece 1 1 0;on 11 player 0 piece 0;");
        told(x, 2, "on 3 fire 9;on 5 tune 6;on 7 empty;on 8 child 20;on 11 dry 1;");
        x.set(5, 0, 300);
        return x;
    }

    @Says({"LASTS of a PLAYER and a set of one to five PIECES in the order by which a recital of them is shortest (playing and waiting):",
        "minutes; the i-th PIECE (of several orders the first)."})
    static void p20TheShortestRecital() {
        WeepingPiano x = new WeepingPiano();
        x.piece(4, 9, 0);
        x.piece(1, 1, 0);
        x.piece(2, 3, 0);
        x.player(0, 0);
        x.player(9, 0);
        due("one alone", x.lasts(0, 1, 0), 4);
        due("1, 2, 0: 1 and 7 wept, no waiting", x.lasts(0, 7, 0), 7);
        int[] order = {1, 2, 0};
        for (int i = 0; i < 3; i++) due("in order " + i, x.lasts(0, 7, 10 + i), order[i]);
        due("2, 0: 6 wept", x.lasts(0, 5, 0), 6);
        due("the first of these", x.lasts(0, 5, 10), 2);
        due("1, 2: neither waits, the first order", x.lasts(0, 6, 10), 1);
        due("by another: 10 wept, then 24 and 34 wait 8", x.lasts(1, 7, 0), 15);
        int[] hers = {1, 2, 0};
        for (int i = 0; i < 3; i++) due("her order " + i, x.lasts(1, 7, 10 + i), hers[i]);
        x.set(5, 0, 13);
        due("from how things are: 14 waits 2, 8 and 6 waits 2", x.lasts(0, 7, 0), 11);
        WeepingPiano y = piano(5, 1);
        for (int i = 0; i < 5; i++) due("of orders that are all alike the first", y.lasts(0, 31, 10 + i), i);
        due("five", y.lasts(0, 31, 0), 5);
        due("six are too many", piano(6, 1).lasts(0, 63, 0), NONE);
    }

    // CHORDS

    @Says({"CHORDS: sets of 12 tones (bits 0 .. 11; above 0):",
        "MOVED of two: by how many steps up (0 .. 11, modulo 12) the first one is the second one (the least; NONE);"})
    static void p21Moved() {
        WeepingPiano x = new WeepingPiano();
        int major = set(0, 4, 7);
        due("by 5", x.chords(major, set(5, 9, 0), 0), 5);
        due("back by 7", x.chords(set(5, 9, 0), major, 0), 7);
        due("by none", x.chords(major, major, 0), 0);
        due("by 11", x.chords(major, set(11, 3, 6), 0), 11);
        due("minor is none", x.chords(major, set(0, 3, 7), 0), NONE);
        due("the least of three", x.chords(set(0, 4, 8), set(1, 5, 9), 0), 1);
        due("more tones", x.chords(1, 3, 0), NONE);
        within("a chord", v -> x.chords(v, v, 0) == 0, 1, 4095);
    }

    @Says("TURNED: the same of the first one turned over (tone t is 12 less t, modulo 12).")
    static void p21Turned() {
        WeepingPiano x = new WeepingPiano();
        int major = set(0, 4, 7);
        int minor = set(0, 3, 7);
        due("major turned over is 0, 8, 5: minor by 7", x.chords(major, minor, 1), 7);
        due("minor turned over is 0, 9, 5", x.chords(minor, set(0, 9, 5), 1), 0);
        due("minor turned over, 7 more: 7, 4, 0", x.chords(minor, major, 1), 7);
        due("major is not major turned over", x.chords(major, major, 1), NONE);
        due("tone 0 is 0", x.chords(1, 1, 1), 0);
        due("tone 1 is 11, 2 more is 1", x.chords(2, 2, 1), 2);
    }

    @Says("HELD: the most tones of one that are tones of it moved by s (1 .. 11): how many; the s (of several the least).")
    static void p21Held() {
        WeepingPiano x = new WeepingPiano();
        int[][] all = {{set(0, 4, 7), 1, 3}, {set(0, 4, 8), 3, 4}, {set(0, 6), 2, 6}, {set(5), 0, 1}, {4095, 12, 1}, {set(0, 2, 4, 5, 7, 9, 11), 6, 5},
            {set(0, 1), 1, 1}, {set(0, 11), 1, 1}, {set(0, 2, 4), 2, 2}};
        for (int[] v : all) {
            due("held of " + v[0], x.chords(v[0], 0, 2), v[1]);
            due("its s of " + v[0], x.chords(v[0], 0, 3), v[2]);
        }
    }

    @Says("SPAN: the fewest steps from one of its tones up (modulo 12) by which all are passed.")
    static void p21Span() {
        WeepingPiano x = new WeepingPiano();
        int[][] all = {{set(0, 4, 7), 7}, {set(0, 4, 8), 8}, {set(5), 0}, {4095, 11}, {set(0, 11), 1}, {set(0, 6), 6}, {set(10, 11, 1), 3}, {set(0, 3, 10), 5}};
        for (int[] v : all) due("span of " + v[0], x.chords(v[0], 0, 4), v[1]);
    }

    // A TUNE

    @Says({"A TUNE: up to 16 told tones (0 .. 60).",
        "TWICE: the longest row of it that comes again, if moved, too (at another place; the rows may meet): how many tones (one alone: 0); where it is first."})
    static void p23Twice() {
        int[][] tunes = {{0, 4, 7, 0, 4, 7}, {9, 0, 4, 7, 20, 24, 27}, {5, 5, 5, 5}, {0, 1, 3, 6, 10}, {1, 2, 3, 4, 5}, {7}, {}, {0, 5, 0, 5, 0},
            {60, 50, 1, 3, 60, 50, 9, 11}, {3, 8}, {20, 3, 3, 3, 50}};
        int[] length = {3, 3, 3, 0, 4, 0, 0, 3, 2, 0, 2};
        int[] place = {0, 1, 0, NONE, 0, NONE, NONE, 0, 0, NONE, 1};
        for (int i = 0; i < tunes.length; i++) {
            due("length of tune " + i, tune(tunes[i]).tune(0), length[i]);
            due("place of tune " + i, tune(tunes[i]).tune(1), place[i]);
        }
        WeepingPiano x = new WeepingPiano();
        for (int i = 1; i <= 16; i++) due("tone", x.tone(i), i);
        due("no 17th", x.tone(1), NONE);
        due("fifteen tones, a place later moved by 1", x.tune(0), 15);
    }

    @Says({"CANON of d (1 .. 15) places later, h (0 .. 12) higher, with itself: in how many places both sound;",
        "how many of these are apart by 3, 4, 7, 8, 9 or 0 (modulo 12)."})
    static void p24Canon() {
        WeepingPiano x = tune(0, 20, 44, 3, 4, 17, 30, 8);
        for (int d = 1; d <= 15; d++) due("places of " + d, x.canon(d, 0, 0), Math.max(0, 8 - d));
        for (int apart = 0; apart <= 48; apart++) {
            boolean sweet = List.of(3, 4, 7, 8, 9, 0).contains(apart % 12);
            due("apart by " + apart, tune(0, apart).canon(1, 0, 1), sweet ? 1 : 0);
            due("apart by " + apart + ", downwards", tune(apart, 0).canon(1, 0, 1), sweet ? 1 : 0);
            if (apart <= 12) due("higher by " + apart, tune(30, 30).canon(1, apart, 1), sweet ? 1 : 0);
        }
        due("the later one is higher: 5 above 5", tune(0, 5).canon(1, 5, 1), 1);
        due("the later one is higher: 5 above 0", tune(5, 0).canon(1, 5, 1), 0);
        due("of two places: 4 and 6", tune(0, 1, 4, 7).canon(2, 0, 1), 1);
    }

    @Says("RISES: the longest row of tones side by side each higher than the one ahead.")
    static void p23Rises() {
        int[][] tunes = {{}, {5}, {5, 5, 5}, {5, 4, 3}, {1, 2, 3}, {9, 1, 2, 2, 3, 4, 9, 0, 1}, {0, 60}, {1, 3, 2, 4, 3, 5}};
        int[] want = {0, 1, 1, 1, 3, 4, 2, 2};
        for (int i = 0; i < tunes.length; i++) due("rises of tune " + i, tune(tunes[i]).tune(2), want[i]);
    }

    @Says({"FINGERS for the TUNE: each tone one of 1 .. 5; from tone to tone the cost is how far (the second tone less the first) is apart from "
        + "2 times (its finger less the other's); the same finger for unlike tones 9 more:",
        "the least cost; the finger of tone i (of several ways the first)."})
    static void p23Fingers() {
        int[][] tunes = {{0, 2, 4, 6, 8}, {8, 6, 4, 2, 0}, {7}, {7, 7, 7}, {0, 10}, {10, 0}, {0, 1}, {1, 0}, {0, 3, 6}};
        int[] cost = {0, 0, 0, 0, 2, 2, 1, 1, 2};
        String[] fingers = {"12345", "54321", "1", "111", "15", "51", "12", "21", "123"};
        for (int i = 0; i < tunes.length; i++) {
            WeepingPiano x = tune(tunes[i]);
            due("cost of tune " + i, x.tune(3), cost[i]);
            for (int t = 0; t < tunes[i].length; t++) due("finger " + t + " of tune " + i, x.tune(10 + t), fingers[i].charAt(t) - '0');
        }
        int[][] more = {{0, 2, 4, 6, 8, 10}, {5, 9, 9, 3, 40, 39}, {0, 1, 2, 3, 4, 5}, {60, 0, 60, 0, 60, 1}, {12, 14, 11, 12, 19, 3}};
        for (int[] tones : more) {
            long best = leastFingers(tones);
            WeepingPiano x = tune(tones);
            due("least cost", x.tune(3), best / 1000000);
            for (int t = 0; t < 6; t++) due("first way, finger " + t, x.tune(10 + t), best / (long) Math.pow(10, 5 - t) % 10);
        }
    }

    /** Of all ways for six tones the least cost, and behind it the fingers of the first such way, as digits. */
    private static long leastFingers(int[] tones) {
        long best = Long.MAX_VALUE;
        for (int way = 111111; way <= 555555; way++) {
            String f = "" + way;
            if (!f.matches("[1-5]{6}")) continue;
            long cost = 0;
            for (int i = 1; i < 6; i++) {
                int step = tones[i] - tones[i - 1];
                cost += Math.abs(step - 2 * (f.charAt(i) - f.charAt(i - 1))) + (f.charAt(i) == f.charAt(i - 1) && step != 0 ? 9 : 0);
            }
            best = Math.min(best, cost * 1000000 + way);
        }
        return best;
    }

    // BAR, BEATS

    @Says({"BAR of n (1 .. 24) beats: told lengths (a set of 1 .. 8: bits 0 .. 7; one at least): in how many ways it is filled in order (modulo 1000000007);",
        "so that no two side by side are alike."})
    static void p25Bar() {
        WeepingPiano x = new WeepingPiano();
        int[] ones = {1, 2, 3, 5, 8, 13};
        for (int n = 1; n <= 6; n++) due("1 and 2, n " + n, x.bar(n, 3, 0), ones[n - 1]);
        for (int n = 1; n <= 12; n++) {
            for (int lengths : new int[] {1, 2, 3, 5, 6, 128, 255, 129, 0b1010}) {
                due("ways of " + n + ", " + lengths, x.bar(n, lengths, 0), ways(n, lengths, 0, false));
                due("no two alike of " + n + ", " + lengths, x.bar(n, lengths, 1), ways(n, lengths, 0, true));
            }
        }
        due("all lengths, 24 beats", x.bar(24, 255, 0), ways(24, 255, 0, false));
        due("3 by 1 and 2 so that no two are alike", x.bar(3, 3, 1), 2);
    }

    private static int ways(int n, int lengths, int last, boolean unlike) {
        if (n == 0) return 1;
        int sum = 0;
        for (int l = 1; l <= 8 && l <= n; l++) {
            if ((lengths >> (l - 1) & 1) != 0 && !(unlike && l == last)) sum += ways(n - l, lengths, l, unlike);
        }
        return sum;
    }

    @Says({"BEATS: STRINGS s, t: their periods are told (1 .. 99; 1 at first): behind how many both are at their beginning;",
        "of all STRINGS (modulo 1000000007)."})
    static void p27Beats() {
        WeepingPiano x = new WeepingPiano();
        due("at first", x.beats(3, 4) * 10 + x.beats(NONE, 0), 11);
        within("period", v -> x.period(3, v), 1, 99);
        x.period(3, 12);
        x.period(4, 18);
        x.period(5, 5);
        due("12 and 18", x.beats(3, 4), 36);
        due("either way", x.beats(4, 3), 36);
        due("12 and 5", x.beats(3, 5), 60);
        due("with itself", x.beats(4, 4), 18);
        due("with another of 1", x.beats(0, 4), 18);
        due("of all", x.beats(NONE, 0), 180);
        int[] great = {99, 98, 97, 95, 89, 83, 79, 73};
        long all = 1;
        for (int s = 0; s < 8; s++) {
            x.period(s, great[s]);
            all = all * great[s] % 1000000007;
        }
        due("of all, modulo", x.beats(NONE, 5), all);
    }

    // PEDAL, WHOSE

    @Says("PEDAL: up to 9 told tones (minute 0 .. 59, lasts 1 .. 30, tone 0 .. 60): MUD: the most that sound at once; the first minute.")
    static void p29Mud() {
        WeepingPiano x = new WeepingPiano();
        int[][] told = {{10, 5, 0}, {14, 2, 0}, {15, 1, 0}, {20, 30, 0}, {49, 1, 0}, {49, 3, 0}, {59, 30, 60}, {59, 30, 60}, {88, 1, 1}};
        int[] mud = {1, 2, 2, 2, 2, 3, 3, 3, 3};
        int[] first = {10, 14, 14, 14, 14, 49, 49, 49, 49};
        for (int i = 0; i < 8; i++) {
            due("how many", x.pedal(told[i][0], told[i][1], told[i][2]), i + 1);
            due("mud", x.mud(0), mud[i]);
            due("first minute", x.mud(1), first[i]);
        }
        due("minute 88 can't be", x.pedal(88, 1, 1), NONE);
        due("the ninth", x.pedal(59, 1, 1), 9);
        due("three in minute 59, too, but 49 is first", x.mud(1), 49);
        due("no tenth", x.pedal(1, 1, 1), NONE);
    }

    @Says("CLASH: how many couples that sound together at some minute are apart by 1, 2, 10 or 11 (modulo 12).")
    static void p29Clash() {
        for (int apart = 0; apart <= 60; apart++) {
            WeepingPiano x = new WeepingPiano();
            x.pedal(5, 3, apart);
            x.pedal(7, 3, 0);
            boolean clash = apart % 12 == 1 || apart % 12 == 2 || apart % 12 == 10 || apart % 12 == 11;
            due("apart by " + apart, x.mud(2), clash ? 1 : 0);
        }
        WeepingPiano x = new WeepingPiano();
        x.pedal(0, 3, 10);
        x.pedal(3, 3, 11);
        due("one is over when the other begins", x.mud(2), 0);
        WeepingPiano y = new WeepingPiano();
        y.pedal(3, 3, 11);
        y.pedal(0, 3, 10);
        due("told the other way", y.mud(2), 0);
        x.pedal(2, 2, 12);
        due("the third sounds with both", x.mud(2), 2);
        x.pedal(0, 9, 13);
        due("the fourth with the second and the third", x.mud(2), 4);
    }

    @Says("WHOSE of v (1 .. 999): sets of PIECES whose WEPT together is v: how many; the least; those in all of them (a set; none: 0).")
    static void p30Whose() {
        WeepingPiano x = wept(5, 3, 2, 8);
        int[][] all = {{5, 2, 1, 0}, {8, 2, 3, 0}, {10, 2, 7, 4}, {13, 2, 9, 8}, {18, 1, 15, 15}, {2, 1, 4, 4}, {4, 0, NONE, 0}, {999, 0, NONE, 0}, {15, 1, 13, 13}};
        for (int[] v : all) {
            due("how many of " + v[0], x.whose(v[0], 0), v[1]);
            due("the least of " + v[0], x.whose(v[0], 1), v[2]);
            due("those in all of " + v[0], x.whose(v[0], 2), v[3]);
        }
        WeepingPiano y = wept(0, 7);
        due("with one that wept nothing and without", y.whose(7, 0), 2);
        due("the one in both", y.whose(7, 2), 2);
        due("v is above 0", y.whose(0, 0), NONE);
    }

    // MAY, ALIKE, PAGES, GAME

    @Says({"MAY: a PLAYER may have PIECES not HARDER than his ART:", "HAVE: each PIECE to one PLAYER at most, each PLAYER as many as n (1 .. 12): the most PIECES that are had;",
        "the PLAYER of a PIECE (of several ways the first, PIECE by PIECE, a PLAYER ahead of none, the least)."})
    static void p31Have() {
        WeepingPiano x = new WeepingPiano();
        for (int hard : new int[] {2, 5, 2, 9, 0}) x.piece(1, 0, hard);
        x.player(5, 0);
        x.player(2, 0);
        int[] most = {2, 4, 4};
        int[][] who = {{0, NONE, 1, NONE, NONE}, {0, 0, 1, NONE, 1}, {0, 0, 0, NONE, 1}};
        for (int n = 1; n <= 3; n++) {
            due("most, n " + n, x.have(n, 0), most[n - 1]);
            for (int p = 0; p < 5; p++) due("of piece " + p + ", n " + n, x.have(n, 10 + p), who[n - 1][p]);
        }
        due("n 12", x.have(12, 0), 4);
        x.set(2, 1, 9);
        int[] then = {0, 0, 1, 1, NONE};
        for (int p = 0; p < 5; p++) due("of piece " + p + ", when the second may have all", x.have(2, 10 + p), then[p]);
        x.player(4, 0);
        due("five", x.have(2, 0), 5);
        WeepingPiano y = piano(1, 0);
        y.piece(1, 0, 5);
        y.player(5, 0);
        y.player(0, 0);
        due("both, if the second has the first", y.have(1, 0), 2);
        due("the first is the second's", y.have(1, 10), 1);
        due("the second is the first's", y.have(1, 11), 0);
    }

    @Says("ALIKE: groups of PIECES by LIKENESS: how many; the group of a PIECE (a set).")
    static void p32Alike() {
        WeepingPiano x = piano(7, 0);
        due("each alone", x.alike(NONE), 7);
        due("alone", x.alike(3), 8);
        told(x, 3, "piece 6 like 1;piece 4 like 6;piece 2 like 0;piece 1 like 4;");
        int[] want = {set(0, 2), set(1, 4, 6), set(0, 2), set(3), set(1, 4, 6), set(5), set(1, 4, 6)};
        for (int p = 0; p < 7; p++) due("group of " + p, x.alike(p), want[p]);
        due("how many", x.alike(NONE), 4);
    }

    @Says("PAGES of n (1 .. 60) by turners that turn every a-th and every b-th (1 .. 9): how many are turned by one of them alone; by none.")
    static void p33Pages() {
        WeepingPiano x = new WeepingPiano();
        due("12 by 2 and 3: 2 4 8 10 and 3 9", x.pages(12, 2, 3, 0), 6);
        due("1 5 7 11", x.pages(12, 2, 3, 1), 4);
        due("60 by 1 and 9", x.pages(60, 1, 9, 0), 54);
        due("none by 1", x.pages(60, 1, 9, 1), 0);
        due("both turn the same ones", x.pages(60, 7, 7, 0), 0);
        due("all others", x.pages(60, 7, 7, 1), 52);
        due("5 by 9 and 8", x.pages(5, 9, 8, 0) * 10 + x.pages(5, 9, 8, 1), 5);
    }

    @Says({"GAME: from FLAT of STRINGS two by turns take 1, 2 or 4 of one; who takes the last one of all wins:",
        "the STRING (of several the least), how much (the least) who begins well takes."})
    static void p34Game() {
        boolean[] wins = new boolean[6 * 6 * 6];
        for (int at = 0; at < wins.length; at++) {
            int[] flat = {at % 6, at / 6 % 6, at / 36};
            int[] weight = {1, 6, 36};
            int string = NONE;
            int much = NONE;
            for (int s = 0; s < 3 && string == NONE; s++) {
                for (int take = 1; take <= 4 && string == NONE; take *= 2) {
                    if (take <= flat[s] && !wins[at - take * weight[s]]) {
                        string = s;
                        much = take;
                    }
                }
            }
            wins[at] = string != NONE;
            WeepingPiano x = new WeepingPiano();
            int[] places = {0, 4, 7};
            for (int s = 0; s < 3; s++) x.set(4, places[s], flat[s]);
            due("string of " + at, x.game(0), string == NONE ? NONE : places[string]);
            due("how much of " + at, x.game(1), much);
        }
    }

    // UNDO

    @Says("UNDO: the latest DAY, PLAYING, TUNING, EMPTYING, CHILD not undone yet goes back (STATE, THE BOOK, too): 6 are kept;")
    static void p35WhatGoesBack() {
        WeepingPiano x = lawful("weeps 40;damps 500;settles 9;");
        told(x, 1, "on 1 player 0 piece 0 1;on 2 player 0 piece 1;");
        told(x, 2, "on 1 tune 2;on 1 fire 6;on 1 dry 3;on 2 empty;");
        x.set(5, 0, 500);
        int[][] was = new int[9][];
        Runnable[] done = {() -> x.play(0, 1), () -> x.days(1), () -> x.act(2, 44), () -> x.days(1), () -> x.act(1, 0), () -> x.play(0, 0), () -> x.act(0, 0), () -> x.days(1)};
        x.set(4, 0, 9);
        was[0] = seen(x);
        for (int i = 0; i < 8; i++) {
            done[i].run();
            was[i + 1] = seen(x);
            due("something was done " + i, Arrays.equals(was[i], was[i + 1]), false);
            due("kept", x.look(15), Math.min(6, i + 1));
        }
        for (int i = 7; i >= 2; i--) {
            due("undone " + i, x.undo(), true);
            due("as it was ahead of " + i, Arrays.equals(was[i], seen(x)), true);
            due("kept", x.look(15), i - 2);
        }
        due("no more than six", x.undo(), false);
    }

    /** All that playing, days and hands may change. */
    private static int[] seen(WeepingPiano x) {
        int[] all = new int[9 + 6 + 1 + 8 + 4];
        for (int i = 0; i < 9; i++) all[i] = x.look(2 + i);
        for (int p = 0; p < 2; p++) {
            all[9 + 2 * p] = x.of(p, 3);
            all[10 + 2 * p] = x.of(p, 4);
        }
        all[15] = x.who(0, 2);
        for (int s = 0; s < 8; s++) all[16 + s] = x.string(s, 0);
        for (int w = 0; w < 4; w++) all[24 + w] = x.book(all[7] - 1, w);
        return all;
    }

    @Says("whatever else is told but THE LAW, LIKENESS and what is told for thought (TUNE, BEATS, PEDAL) (the taking of THE IMAGE does not) forgets them.")
    static void p35WhatForgets() {
        WeepingPiano x = piano(2, 1);
        Runnable[] not = {() -> Check.tell(x, 0, "weeps 1;"), () -> Check.tell(x, 3, "piece 0 like 1;"), () -> x.tone(5), () -> x.tone(NONE), () -> x.period(1, 9),
            () -> x.pedal(1, 1, 1), () -> x.pedal(NONE, 0, 0), () -> x.image(true)};
        Runnable[] but = {() -> x.state(1), () -> x.piece(1, 1, 1), () -> x.player(1, 1), () -> x.set(0, 0, 1), () -> x.set(1, 0, 1), () -> x.set(2, 0, 1), () -> x.set(3, 0, 1),
            () -> x.set(4, 0, 1), () -> x.set(5, 0, 1), () -> x.set(6, 0, 1), () -> x.set(7, 0, 1), () -> Check.tell(x, 1, "on 9 player 0 piece 0;"), () -> Check.tell(x, 2, "on 9 empty;")};
        for (int i = 0; i < not.length; i++) {
            x.act(2, 1);
            int before = x.look(15);
            not[i].run();
            due("not forgotten by " + i, x.look(15), before);
        }
        for (int i = 0; i < but.length; i++) {
            x.act(2, 1);
            but[i].run();
            due("forgotten by " + i, x.look(15), 0);
            due("nothing to undo " + i, x.undo(), false);
        }
    }

    // THE IMAGE

    @Says("THE IMAGE: all that is and was told but the TAPE, fault() and what can be undone (nothing then), as it was when it was taken; gone back to it may be more than once.")
    static void p36TheImage() {
        WeepingPiano x = growing();
        told(x, 3, "piece 0 like 1;");
        for (int v : new int[] {7, 5, 1}) x.tone(v);
        x.period(2, 12);
        x.pedal(3, 4, 5);
        x.pedal(6, 2, 4);
        x.days(1);
        int[] was = known(x);
        due("taken", x.image(true), true);
        for (int time = 0; time < 2; time++) {
            changeAll(x, time);
            due("all is otherwise", Arrays.equals(was, known(x)), false);
            Check.tell(x, 0, "weeps");
            Check.feed(x, "weeps 9;");
            x.act(2, 1);
            due("gone back", x.image(false), true);
            due("as it was", Arrays.equals(was, known(x)), true);
            due("nothing can be undone", x.look(15) == 0 && !x.undo(), true);
            due("fault() is as it is", x.fault(0) * 10 + x.fault(1), 15);
            due("the tape is as it is", x.feed(0, 0, 0, 0, 0), 28);
            x.end(0);
        }
    }

    private static void changeAll(WeepingPiano x, int time) {
        x.piece(4, 4, 4);
        x.player(3, 3);
        for (int what = 0; what < 4; what++) x.set(what, 0, time + what);
        x.set(4, 1, 33);
        x.state(99 + time);
        Check.tell(x, 0, "weeps 5;damps 77;settles 9;");
        Check.tell(x, 1, "on 5 player 0 piece 0;");
        Check.tell(x, 2, "");
        Check.tell(x, 3, "");
        x.tone(NONE);
        x.tone(9);
        x.tone(8);
        x.period(2, 50 + time);
        x.pedal(NONE, 0, 0);
        x.pedal(9, 1, 30);
        x.pedal(9, 9, 30);
        x.play(0, 0);
        x.days(3);
    }

    private static int[] known(WeepingPiano x) {
        List<Integer> all = new ArrayList<>();
        for (int i = 0; i < 15; i++) all.add(x.look(i));
        for (int p = 0; p < 3; p++) for (int what = 0; what < 6; what++) all.add(x.of(p, what));
        for (int p = 0; p < 2; p++) for (int what = 0; what < 3; what++) all.add(x.who(p, what));
        for (int s = 0; s < 8; s += 2) for (int what = 0; what < 2; what++) all.add(x.string(s, what));
        for (int i = 1; i < 3; i++) for (int what = 0; what < 4; what++) all.add(x.book(i, what));
        for (int what = 0; what < 4; what++) all.add(x.goes(12, what));
        all.add(x.damps(0, 0, 5));
        all.add(x.settles(0, 1));
        all.add(x.of(0, 10));
        all.add(x.tune(3));
        all.add(x.tune(10));
        all.add(x.beats(NONE, 0));
        all.add(x.mud(0));
        all.add(x.mud(1));
        all.add(x.mud(2));
        return all.stream().mapToInt(i -> i).toArray();
    }
}
