import java.util.function.IntUnaryOperator;

/** The document's sections "Promise 1" to "Promise 37", each with its wrong inputs. */
final class DocPromises extends Edge {

    /** PIECES (3 minutes, sad 4, hard 5) and (1, 0, 9), a PLAYER (6, 2). */
    private static WeepingPiano two() {
        WeepingPiano x = new WeepingPiano();
        x.piece(3, 4, 5);
        x.piece(1, 0, 9);
        x.player(6, 2);
        return x;
    }

    /** For each what below n and none beyond, nor for those far away. */
    private static void whatBelow(int n, IntUnaryOperator call) {
        for (int what = 0; what < n; what++) due("what " + what, call.applyAsInt(what) != NONE, true);
        refused("another what", call, n, -1, LEAST, MOST);
    }

    @Says("A dry case.")
    static void p01ADryCase() {
        WeepingPiano x = new WeepingPiano();
        for (int what = 0; what < 16; what++) due("look(" + what + ")", x.look(what), what == 4 ? 10 : 0);
        for (int s = 0; s < 8; s++) due("string", x.string(s, 0) * 100 + x.string(s, 1), 1);
        due("nothing to undo, no image", x.undo() || x.image(false), false);
        due("no fault", x.fault(0) * 10 + x.fault(1), NONE);
        due("no line", x.book(0, 0), NONE - 1);
        due("no group", x.alike(NONE), 0);
        due("no tone", x.tune(0) + x.tune(2) + x.tune(3) + x.mud(0) + x.mud(1) + x.mud(2) + x.canon(1, 0, 0), 0);
        due("no game", x.game(0), NONE);
        due("the tape", x.feed(0, 0, 0, 0, 0), 20);
    }

    @Says("STATE is told: what it was.")
    static void p02State() {
        WeepingPiano x = lawful("damps 1 when string=0;damps 0;");
        int was = 0;
        for (int v : new int[] {7, -1, LEAST, MOST, 0, 123456789}) {
            due("what it was", x.state(v), was);
            due("as told", x.look(10), v);
            was = v;
        }
        x.play(0, 0);
        due("as it became", x.state(5), drawn(123456789, 1));
    }

    @Says("A PIECE: the number; NONE if one can't be, or there are twelve.")
    static void p03Piece() {
        WeepingPiano x = new WeepingPiano();
        int[][] not = {{0, 0, 0}, {31, 0, 0}, {1, -1, 0}, {1, 10, 0}, {1, 0, -1}, {1, 0, 10}, {LEAST, 0, 0}, {1, MOST, 0}, {1, 0, LEAST}};
        for (int i = 0; i < 12; i++) {
            for (int[] v : not) due("can't be", x.piece(v[0], v[1], v[2]), NONE);
            due("number", x.piece(30 - i, 9 - i % 10, i % 10), i);
        }
        due("there are twelve", x.piece(1, 1, 1), NONE);
        due("still", x.look(0), 12);
    }

    @Says("A PLAYER: the number; NONE if one can't be, or there are six.")
    static void p04Player() {
        WeepingPiano x = new WeepingPiano();
        int[][] not = {{-1, 0}, {10, 0}, {0, -1}, {0, 10}, {LEAST, 0}, {0, MOST}};
        for (int i = 0; i < 6; i++) {
            for (int[] v : not) due("can't be", x.player(v[0], v[1]), NONE);
            due("number", x.player(9 - i, i), i);
        }
        due("there are six", x.player(1, 1), NONE);
        due("still", x.look(1), 6);
    }

    @Says("What 0 SAD, 1 HARD of PIECE who, 2 ART, 3 WISH of PLAYER who, 4 FLAT of STRING who, 5 WATER, 6 DRY, 7 FIRE (who not asked): true; false if one can't be, or another what.")
    static void p05Set() {
        WeepingPiano x = two();
        int[] most = {9, 9, 9, 9, 50, 999, 99, 9};
        int[] whos = {2, 2, 1, 1, 8};
        for (int what = 0; what < 8; what++) {
            int w = what;
            within("what " + w, v -> x.set(w, 0, v), 0, most[w]);
            if (w < 5) within("who of " + w, v -> x.set(w, v, 1), 0, whos[w] - 1);
            else for (int who : new int[] {LEAST, -1, 99, MOST}) due("who not asked", x.set(w, who, 1), true);
        }
        for (int what : new int[] {-1, 8, LEAST, MOST}) due("another what", x.set(what, 0, 1), false);
        WeepingPiano y = two();
        for (int what = 0; what < 8; what++) y.set(what, what < 2 ? 1 : 0, 2 + what);
        int[] got = {y.of(1, 1), y.of(1, 2), y.who(0, 0), y.who(0, 1), y.string(0, 0), y.look(2), y.look(4), y.look(5)};
        for (int what = 0; what < 8; what++) due("as told " + what, got[what], 2 + what);
        due("no other", y.of(0, 1) * 10 + y.of(0, 2), 45);
    }

    @Says("To PLAY one PIECE: what it wept; NONE if there is none such.")
    static void p06Play() {
        WeepingPiano x = two();
        due("3 minutes of 4 and 6 less 2", x.play(0, 0), 24);
        due("a minute of 6 less 2", x.play(0, 1), 4);
        for (int v : new int[] {1, -1, LEAST, MOST}) due("no such player", x.play(v, 0), NONE);
        for (int v : new int[] {2, -1, LEAST, MOST}) due("no such piece", x.play(0, v), NONE);
        due("two were played", x.look(9), 2);
        due("and no lid was shut", x.look(7), 0);
    }

    @Says("What 0 to TUNE STRING who (FLAT above 0), 1 to EMPTY (SALT above 0), 2 to bring a CHILD that takes who (1 .. 99): true; false if it can't be, or another what.")
    static void p07Act() {
        WeepingPiano x = new WeepingPiano();
        due("in tune", x.act(0, 3), false);
        due("no salt", x.act(1, 0), false);
        within("a child", v -> x.act(2, v), 1, 99);
        x.set(4, 3, 1);
        x.set(5, 0, 8);
        x.days(1);
        for (int who : new int[] {2, -1, 8, LEAST, MOST}) due("not this string", x.act(0, who), false);
        due("to tune", x.act(0, 3), true);
        due("to empty, whoever", x.act(1, -7), true);
        due("twice", x.act(0, 3) || x.act(1, 0), false);
        for (int what : new int[] {-1, 3, LEAST, MOST}) due("another what", x.act(what, 1), false);
        due("lines of what was done", x.look(9), 4);
    }

    @Says("DAYS go by (1 .. 20): how many PIECES were played. NONE, and nothing is done, if one can't be, or DAY would be above 9999.")
    static void p08Days() {
        WeepingPiano x = two();
        told(x, 1, "on 0 player 0 piece 0 1;on 3 player 0 piece 1;on 19 player 0 piece 0 0 0;on 20 player 0 piece 1;");
        due("two days", x.days(2), 2);
        for (int v : new int[] {0, -1, 21, LEAST, MOST}) due("can't be", x.days(v), NONE);
        due("nothing is done", x.look(8), 2);
        due("eighteen days", x.days(18), 4);
        due("a day", x.days(1), 1);
        due("twenty", x.days(20), 0);
        WeepingPiano y = new WeepingPiano();
        for (int i = 0; i < 499; i++) y.days(20);
        due("day", y.look(8), 9980);
        due("above 9999", y.days(20), NONE);
        due("to 9999", y.days(19), 0);
        due("none then", y.days(1), NONE);
        due("the last day", y.look(8), 9999);
    }

    @Says("Twenty bytes come behind the TAPE, of each number the highest first: how many it has. NONE, and nothing comes, if there would be more than 400.")
    static void p09Feed() {
        WeepingPiano x = piano(1, 1);
        due("weeps 42;", x.feed('w' << 24 | 'e' << 16 | 'e' << 8 | 'p', 's' << 24 | ' ' << 16 | '4' << 8 | '2', ';' << 24 | 0x202020, 0x20202020, 0x0a0a0a0a), 20);
        due("a line", x.text(0), 1);
        due("what it tells", x.of(0, 10), 42);
        for (int n = 20; n <= 400; n += 20) due("how many", x.feed(0x20202020, 0x20202020, 0x20202020, 0x20202020, n == 400 ? 0x20202021 : 0x20202020), n);
        due("no more", x.feed(0x21212121, 0, 0, 0, 0), NONE);
        due("the last byte is none", x.text(0), NONE);
        due("and nothing was ahead of it", x.fault(1), 399);
        for (int n = 0; n < 20; n++) x.feed(0, 0, 0, 0, 0);
        due("399 are there", x.end(381), true);
        due("401 would be", x.feed(0, 0, 0, 0, 0), NONE);
        due("380", x.end(380), true);
        due("400 may be", x.feed(0, 0, 0, 0, 0), 400);
    }

    @Says("The TAPE has its first n bytes alone: true; false, changing nothing, if it has not so many, or n is below 0.")
    static void p10End() {
        WeepingPiano x = piano(1, 1);
        Check.feed(x, "weeps 7;weeps 8;");
        for (int n : new int[] {17, -1, LEAST, MOST}) due("can't be", x.end(n), false);
        due("all of it", x.end(16), true);
        due("the first 8", x.end(8), true);
        due("no more are there", x.end(9), false);
        due("one line", x.text(0), 1);
        due("it tells", x.of(0, 10), 7);
        due("none", x.end(0), true);
        due("of none", x.end(1), false);
    }

    @Says("The TAPE, empty then, is TEXT k: how many lines. NONE: no such one (fault() tells 0), or a FAULT (it stays as it was).")
    static void p11Text() {
        WeepingPiano x = two();
        String[] texts = {"weeps 7;damps 8;settles 9;", "on 4 player 0 piece 1;", "on 4 fire 3;on 5 empty;", "piece 0 like 1;"};
        int[] lines = {3, 1, 2, 1};
        for (int k = 0; k < 4; k++) {
            due("lines", Check.tell(x, k, texts[k]), lines[k]);
            due("look", x.look(11 + k), lines[k]);
            due("the tape is empty", x.end(1), false);
        }
        for (int k = 0; k < 4; k++) {
            due("a fault", Check.tell(x, k, texts[k] + texts[k] + "?"), NONE);
            due("stays", x.look(11 + k), lines[k]);
            due("the tape is empty", x.end(1), false);
        }
        due("the law stays", x.of(0, 10) * 100 + x.damps(0, 0, 0) * 10 + x.settles(0, 0), 789);
        due("likeness stays", x.of(0, 5), 2);
        for (int k : new int[] {-1, 4, LEAST, MOST}) {
            due("a fault is told", Check.tell(x, 0, "weeps"), NONE);
            due("which", x.fault(0), 1);
            Check.feed(x, "weeps");
            due("no such one", x.text(k), NONE);
            due("fault() tells 0", x.fault(0), 0);
            due("and no place", x.fault(1), NONE);
        }
        due("an empty one", x.text(3), 0);
        due("none is like it then", x.of(0, 5), 0);
    }

    @Says("Of the latest text() what 0 the FAULT (0 without one), 1 its place (NONE). NONE for another what.")
    static void p12Fault() {
        WeepingPiano x = two();
        due("at first", x.fault(0) * 10 + x.fault(1), NONE);
        faulty(x, 0, "weeps 1/0;", 2, 8);
        faulty(x, 3, "piece 0 lik 1;", 1, 8);
        refused("another what", x::fault, 2, -1, LEAST, MOST);
        told(x, 0, "weeps 1;");
        due("without one", x.fault(0), 0);
        due("no place", x.fault(1), NONE);
    }

    @Says("Of a PIECE what 0 LONG, 1 SAD, 2 HARD, 3 PLAYED, 4 WEPT, 5 those LIKE it (a set), 10 + p weeps by PLAYER p at its minute 0. NONE if there is none such, or another what.")
    static void p13Of() {
        WeepingPiano x = two();
        x.player(9, 0);
        x.play(0, 0);
        x.play(0, 0);
        told(x, 3, "piece 1 like 0;");
        int[] want = {3, 4, 5, 2, 48, 2};
        for (int what = 0; what < 6; what++) due("what " + what, x.of(0, what), want[what]);
        due("by player 0", x.of(0, 10), 8);
        due("by player 1", x.of(0, 11), 13);
        refused("another what", v -> x.of(0, v), 6, 7, 8, 9, 12, 15, 16, -1, LEAST, MOST);
        for (int what : new int[] {0, 5, 10}) refused("no such piece", v -> x.of(v, what), 2, 12, -1, LEAST, MOST);
        told(x, 0, "weeps minute+6;");
        due("at its minute 0", x.of(1, 10), 6);
    }

    @Says("Of a PLAYER what 0 ART, 1 WISH, 2 TEARS. NONE if there is none such, or another what.")
    static void p14Who() {
        WeepingPiano x = two();
        x.play(0, 0);
        due("art, wish, tears", x.who(0, 0) * 1000 + x.who(0, 1) * 100 + x.who(0, 2), 6224);
        whatBelow(3, v -> x.who(0, v));
        refused("no such player", v -> x.who(v, 0), 1, 6, -1, LEAST, MOST);
    }

    @Says("Of a STRING what 0 FLAT, 1 its period. NONE if there is none such, or another what.")
    static void p15String() {
        WeepingPiano x = new WeepingPiano();
        x.set(4, 7, 33);
        x.period(7, 44);
        due("flat, period", x.string(7, 0) * 100 + x.string(7, 1), 3344);
        due("of another", x.string(6, 0) * 100 + x.string(6, 1), 1);
        whatBelow(2, v -> x.string(0, v));
        refused("no such string", v -> x.string(v, 1), 8, -1, LEAST, MOST);
    }

    @Says("damps of a STRING, if a PLAYER plays a PIECE, at its minute 0; NONE if there is none such.")
    static void p16Damps() {
        WeepingPiano x = two();
        x.set(4, 2, 7);
        told(x, 0, "damps 500+minute*100+sad*10+art+flat*20+string;");
        due("500, 40, 6, 140, 2", x.damps(0, 0, 2), 688);
        due("500, 0, 6, 0, 3", x.damps(0, 1, 3), 509);
        refused("no such player", v -> x.damps(v, 0, 0), 1, -1, LEAST, MOST);
        refused("no such piece", v -> x.damps(0, v, 0), 2, -1, LEAST, MOST);
        refused("no such string", v -> x.damps(0, 0, v), 8, -1, LEAST, MOST);
        due("no draw, nothing played", x.look(10) + x.look(6), 0);
    }

    @Says("settles behind a PIECE by a PLAYER, at minute 0; NONE if there is none such.")
    static void p17Settles() {
        WeepingPiano x = two();
        told(x, 0, "settles 50+minute*9+sad*2+wish;");
        due("50, 8, 2", x.settles(0, 0), 60);
        due("50, 0, 2", x.settles(0, 1), 52);
        refused("no such player", v -> x.settles(v, 0), 1, -1, LEAST, MOST);
        refused("no such piece", v -> x.settles(0, v), 2, -1, LEAST, MOST);
    }

    @Says("Of line i of THE BOOK what 0 DAY, 1 what, 2 which, 3 how much. NONE - 1 if there is none such, or another what.")
    static void p18Book() {
        WeepingPiano x = two();
        x.days(9);
        x.play(0, 1);
        x.act(2, 3);
        line(x, 0, 9, 0, 1, 4);
        line(x, 1, 9, 4, NONE, 3);
        for (int i : new int[] {2, -1, 150, LEAST, MOST}) due("no such line", x.book(i, 0), -2);
        for (int what : new int[] {4, -1, LEAST, MOST}) due("another what", x.book(0, what), -2);
    }

    @Says("GOES (n 1 .. 20) what 0 WATER, 1 SALT, 2 FLAT, 3 waiting. NONE if one can't be, or another what.")
    static void p19Goes() {
        WeepingPiano x = two();
        told(x, 0, "weeps 20;damps 700 when string=4;damps 0;settles 5;");
        told(x, 1, "on 0 player 0 piece 1 0;on 1 player 0 piece 1 1;");
        int[] one = {35, 10, 4, 2};
        int[] two = {15, 22, 6, 11};
        for (int what = 0; what < 4; what++) {
            due("a day, what " + what, x.goes(1, what), one[what]);
            due("two days, what " + what, x.goes(2, what), two[what]);
        }
        whatBelow(4, v -> x.goes(1, v));
        refused("n", v -> x.goes(v, 0), 0, -1, 21, LEAST, MOST);
    }

    @Says("LASTS what 0 minutes, 10 + i the i-th. NONE if there is none such, none or more than five, or another what.")
    static void p20Lasts() {
        WeepingPiano x = piano(7, 2);
        due("three", x.lasts(1, 0b1010001, 0), 3);
        int[] order = {0, 4, 6};
        for (int i = 0; i < 3; i++) due("the i-th", x.lasts(1, 0b1010001, 10 + i), order[i]);
        refused("another what", v -> x.lasts(0, 0b1010001, v), 1, 9, 13, 15, -1, LEAST, MOST);
        refused("no such player", v -> x.lasts(v, 1, 0), 2, -1, LEAST, MOST);
        refused("no such pieces", v -> x.lasts(0, v, 0), 128, 129, 4096, -1, LEAST, MOST);
        refused("none or more than five", v -> x.lasts(0, v, 0), 0, 63, 127);
        due("five", x.lasts(0, 0b1111001, 0), 5);
    }

    @Says("CHORDS a, b what 0 MOVED, 1 TURNED; of a alone 2 HELD, 3 its s, 4 SPAN. NONE if one can't be, or another what.")
    static void p21Chords() {
        WeepingPiano x = new WeepingPiano();
        due("moved", x.chords(0b110101, 0b1101010000, 0), 4);
        due("turned", x.chords(0b110101, 0b110000001010, 1), 3);
        due("held", x.chords(0b110101, 0, 2), 2);
        due("its s", x.chords(0b110101, 0, 3), 2);
        due("span", x.chords(0b110101, 0, 4), 5);
        refused("another what", v -> x.chords(1, 1, v), 5, -1, LEAST, MOST);
        for (int what = 0; what < 5; what++) {
            int w = what;
            refused("a", v -> x.chords(v, 1, w), 0, 4096, -1, LEAST, MOST);
            if (w < 2) refused("b", v -> x.chords(1, v, w), 0, 4096, -1, LEAST, MOST);
            else for (int b : new int[] {0, 4096, -1, LEAST}) due("b is not asked", x.chords(1, b, w) != NONE, true);
        }
    }

    @Says("A tone of the TUNE (NONE: none is then): how many; NONE if one can't be, or there are sixteen.")
    static void p22Tone() {
        WeepingPiano x = new WeepingPiano();
        for (int i = 1; i <= 16; i++) {
            refused("can't be", x::tone, 61, LEAST, -2, MOST);
            due("how many", x.tone(60 - i), i);
        }
        due("there are sixteen", x.tone(0), NONE);
        answered("fingers of sixteen", v -> x.tune(10 + v), 0, 15);
        due("none is then", x.tone(NONE), 0);
        refused("no finger", x::tune, 10);
        due("the first again", x.tone(0), 1);
        due("the second", x.tone(60), 2);
    }

    @Says("TUNE what 0 TWICE, 1 where (0: NONE), 2 RISES (none told: 0), 3 FINGERS' cost, 10 + i the finger. NONE if there is none such, or another what.")
    static void p23Tune() {
        WeepingPiano x = new WeepingPiano();
        due("none told", x.tune(0) * 1000 + x.tune(2) * 10 + x.tune(3), 0);
        due("none told, where", x.tune(1), NONE);
        for (int v : new int[] {9, 4, 6, 14, 16, 13}) x.tone(v);
        due("twice", x.tune(0), 2);
        due("where", x.tune(1), 1);
        due("rises", x.tune(2), 4);
        for (int i = 0; i < 6; i++) due("a finger", x.tune(10 + i) >= 1 && x.tune(10 + i) <= 5, true);
        refused("no such tone or another what", x::tune, 4, 9, 16, 26, -1, LEAST, MOST);
    }

    @Says("CANON what 0 places, 1 of these. NONE if one can't be, or another what.")
    static void p24Canon() {
        WeepingPiano x = new WeepingPiano();
        for (int v : new int[] {0, 3, 6, 10}) x.tone(v);
        due("places", x.canon(1, 0, 0), 3);
        due("3, 3, 4", x.canon(1, 0, 1), 3);
        due("2, 2, 3 by one higher", x.canon(1, 1, 1), 1);
        whatBelow(2, v -> x.canon(1, 0, v));
        answered("d", v -> x.canon(v, 0, 0), 1, 15);
        answered("h", v -> x.canon(1, v, 1), 0, 12);
    }

    @Says("BAR what 0 ways, 1 no two alike. NONE if one can't be, or another what.")
    static void p25Bar() {
        WeepingPiano x = new WeepingPiano();
        due("4 by 1, 2, 3", x.bar(4, 7, 0), 7);
        due("1 3, 3 1, 1 2 1", x.bar(4, 7, 1), 3);
        whatBelow(2, v -> x.bar(1, 1, v));
        answered("n", v -> x.bar(v, 1, 0), 1, 24);
        answered("lengths", v -> x.bar(1, v, 0), 1, 255);
    }

    @Says("The period of a STRING is told: true; false if one can't be.")
    static void p26Period() {
        WeepingPiano x = new WeepingPiano();
        within("string", v -> x.period(v, 2), 0, 7);
        within("period", v -> x.period(3, v), 1, 99);
        due("as told", x.string(3, 1), 99);
        due("of another", x.string(7, 1) * 10 + x.string(6, 1), 21);
    }

    @Says("BEATS of two; of all (s NONE). NONE if there is none such.")
    static void p27Beats() {
        WeepingPiano x = new WeepingPiano();
        for (int s = 0; s < 8; s++) x.period(s, s + 1);
        due("4 and 6", x.beats(3, 5), 12);
        due("8 and 1", x.beats(7, 0), 8);
        for (int t : new int[] {0, -1, 99, LEAST}) due("of all", x.beats(NONE, t), 840);
        refused("s", v -> x.beats(v, 0), 8, -2, LEAST, MOST);
        refused("t", v -> x.beats(0, v), 8, -1, LEAST, MOST);
    }

    @Says("A tone under the PEDAL (minute NONE: none is then): how many; NONE if one can't be, or there are nine.")
    static void p28Pedal() {
        WeepingPiano x = new WeepingPiano();
        int[][] not = {{60, 1, 0}, {-2, 1, 0}, {0, 0, 0}, {0, 31, 0}, {0, 1, -1}, {0, 1, 61}, {LEAST, 1, 0}, {0, MOST, 0}, {0, 1, LEAST}};
        for (int i = 1; i <= 9; i++) {
            for (int[] v : not) due("can't be", x.pedal(v[0], v[1], v[2]), NONE);
            due("how many", x.pedal(59, 30, 60), i);
        }
        due("there are nine", x.pedal(0, 1, 0), NONE);
        due("nine sound", x.mud(0), 9);
        due("none is then", x.pedal(NONE, 99, 99), 0);
        due("none sounds", x.mud(0), 0);
        due("the first again", x.pedal(0, 1, 0), 1);
        due("it sounds in minute 0", x.mud(0) * 10 + x.mud(1), 10);
    }

    @Says("PEDAL what 0 MUD, 1 the first minute (none told: 0), 2 CLASH. NONE for another what.")
    static void p29Mud() {
        WeepingPiano x = new WeepingPiano();
        due("none told", x.mud(0) + x.mud(1) + x.mud(2), 0);
        x.pedal(30, 4, 7);
        x.pedal(33, 9, 9);
        due("mud, minute, clash", x.mud(0) * 1000 + x.mud(1) * 10 + x.mud(2), 2331);
        whatBelow(3, x::mud);
    }

    @Says("WHOSE what 0 how many, 1 the least (NONE), 2 those in all. NONE if v can't be, or another what.")
    static void p30Whose() {
        WeepingPiano x = two();
        x.play(0, 0);
        x.play(0, 1);
        due("28 is of both", x.whose(28, 0) * 100 + x.whose(28, 1) * 10 + x.whose(28, 2), 133);
        due("none wept 5", x.whose(5, 0), 0);
        due("the least of none", x.whose(5, 1), NONE);
        due("in all of none", x.whose(5, 2), 0);
        whatBelow(3, v -> x.whose(4, v));
        answered("v", v -> x.whose(v, 0), 1, 999);
    }

    @Says("HAVE what 0 how many, 10 + p the PLAYER of PIECE p (NONE). NONE if n can't be, there is none such, or another what.")
    static void p31Have() {
        WeepingPiano x = two();
        due("the second is too hard", x.have(2, 0), 1);
        due("of the first", x.have(2, 10), 0);
        due("of the second", x.have(2, 11), NONE);
        refused("none such, another what", v -> x.have(1, v), 12, 1, 9, -1, LEAST, MOST);
        answered("n", v -> x.have(v, 0), 1, 12);
        answered("n of a piece", v -> x.have(v, 10), 1, 12);
    }

    @Says("ALIKE of a PIECE; how many groups (piece NONE). NONE if there is none such.")
    static void p32Alike() {
        WeepingPiano x = two();
        due("alone", x.alike(1), 2);
        due("two groups", x.alike(NONE), 2);
        told(x, 3, "piece 1 like 0;");
        due("together", x.alike(0) * 10 + x.alike(1), 33);
        due("a group", x.alike(NONE), 1);
        refused("no such piece", x::alike, 2, 11, 12, -2, LEAST, MOST);
    }

    @Says("PAGES what 0 by one alone, 1 by none. NONE if one can't be, or another what.")
    static void p33Pages() {
        WeepingPiano x = new WeepingPiano();
        due("10 by 2 and 5: 2 4 6 8 and 5", x.pages(10, 2, 5, 0), 5);
        due("1 3 7 9", x.pages(10, 2, 5, 1), 4);
        whatBelow(2, v -> x.pages(1, 1, 1, v));
        answered("n", v -> x.pages(v, 1, 1, 0), 1, 60);
        answered("a", v -> x.pages(1, v, 1, 0), 1, 9);
        answered("b", v -> x.pages(1, 1, v, 0), 1, 9);
    }

    @Says("GAME what 0 the STRING, 1 how much. NONE if who begins loses, or for another what.")
    static void p34Game() {
        WeepingPiano x = new WeepingPiano();
        due("nothing to take", x.game(0), NONE);
        x.set(4, 6, 5);
        due("the string, how much", x.game(0) * 10 + x.game(1), 62);
        refused("another what", x::game, 2, -1, LEAST, MOST);
        x.set(4, 1, 5);
        due("who begins loses", x.game(0), NONE);
        due("and has nothing to take well", x.game(1), NONE);
    }

    @Says("UNDO: true; false if there is nothing.")
    static void p35Undo() {
        WeepingPiano x = two();
        due("nothing", x.undo(), false);
        x.play(0, 0);
        x.days(2);
        for (int i = 0; i < 3; i++) due("undone", x.undo(), true);
        due("nothing more", x.undo(), false);
        due("nothing was done", x.look(2) + x.look(8) + x.look(9) + x.of(0, 3), 0);
    }

    @Says("THE IMAGE is taken (true), or gone back to (false): true; false if there is none.")
    static void p36Image() {
        WeepingPiano x = two();
        due("none", x.image(false), false);
        due("nothing is changed", x.look(0), 2);
        due("taken", x.image(true), true);
        x.play(0, 0);
        due("gone back", x.image(false), true);
        due("not played", x.of(0, 3), 0);
        x.play(0, 1);
        due("taken anew", x.image(true), true);
        x.play(0, 0);
        due("gone back to the later one", x.image(false), true);
        due("the one was played, the other not", x.of(1, 3) * 10 + x.of(0, 3), 10);
    }

    @Says({"What 0 PIECES, 1 PLAYERS, 2 WATER, 3 SALT, 4 DRY, 5 FIRE, 6 MINUTES of play, 7 of waiting, 8 DAY, 9 lines of THE BOOK, 10 STATE, 11 lines of THE LAW, "
        + "12 of PROGRAMME, 13 of CARE, 14 of LIKENESS, 15 what can be undone. NONE for another what.", "(STATE as it is.)"})
    static void p37Look() {
        WeepingPiano x = two();
        told(x, 0, "weeps 20;damps 1 when string=0;damps 0;settles 5;");
        told(x, 1, "on 0 player 0 piece 1 0;on 9 player 0 piece 0;");
        told(x, 2, "on 0 fire 5;on 0 dry 12;on 8 empty;on 8 fire 1;on 8 fire 2;");
        told(x, 3, "piece 0 like 1;");
        x.state(-9);
        x.days(2);
        int[] want = {2, 1, 17, 14, 12, 3, 4, 2, 2, 3, drawn(-9, 4), 4, 2, 5, 1, 2};
        for (int what = 0; what < 16; what++) due("look(" + what + ")", x.look(what), want[what]);
        refused("another what", x::look, 16, -1, LEAST, MOST);
        due("looking at the state changes nothing", x.look(10), drawn(-9, 4));
    }
}
