/** The document's sections "What it is" and "Terms" 1: what there is. */
final class DocThings extends Edge {

    /** Two PIECES: two minutes and sad 9, one minute and sad 4; PLAYERS of art 9 and of art 2, wish 1. */
    private static WeepingPiano recital() {
        WeepingPiano x = new WeepingPiano();
        x.piece(2, 9, 3);
        x.piece(1, 4, 0);
        x.player(9, 0);
        x.player(2, 1);
        return x;
    }

    // What it is

    @Says("The lid is for the tears: an instrument that weeps within as it is played, and is shut between pieces until it has settled;")
    static void p08ItWeepsAndIsShutBetweenPiecesUntilItHasSettled() {
        WeepingPiano x = recital();
        told(x, 1, "on 0 player 0 piece 0 1;");
        due("pieces", x.days(1), 2);
        due("36 wept, 13 behind it", x.of(0, 4) * 100 + x.of(1, 4), 3613);
        due("36 goes by 3 until it is not above 10", x.look(7), 9);
        due("9 and 13 are 22, of which half stays", x.look(2), 11);
        due("a quarter of the 11 that went", x.look(3), 2);
    }

    @Says("how much it weeps, how likely a string is damped, how fast it settles by a law that is told as a text;")
    static void p11ALawTellsHowMuchItWeepsIsDampedAndSettles() {
        WeepingPiano x = recital();
        due("weeps without a law", x.of(0, 10), 18);
        due("damps without a law", x.damps(0, 0, 0), 0);
        due("settles without a law", x.settles(0, 0), 3);
        told(x, 0, "weeps 5;damps 6;settles 7;");
        due("weeps", x.of(0, 10), 5);
        due("damps", x.damps(0, 0, 0), 6);
        due("settles", x.settles(0, 0), 7);
    }

    @Says("programmes by days, its care, which piece is like which as texts;")
    static void p11ProgrammeCareAndLikenessAreTexts() {
        WeepingPiano x = recital();
        told(x, 1, "on 1 player 0 piece 0;on 2 player 1 piece 1 1;");
        told(x, 2, "on 1 fire 5;");
        told(x, 3, "piece 0 like 1;");
        due("day 0", x.days(1), 0);
        due("day 1", x.days(1), 1);
        due("its fire, a night later", x.look(5), 4);
        due("day 2", x.days(1), 2);
        due("like the first", x.of(0, 5), 2);
    }

    @Says("recitals in which pieces are played minute by minute, strings go flat by draws, two in aprons shut the lid and wait, "
            + "a drawer is emptied of salt, a child is brought to keep it in, a fire is lit;")
    static void p08ARecitalWithAllThatBelongsToIt() {
        WeepingPiano x = recital();
        told(x, 0, "weeps 40+minute;damps 1000;settles 20;");
        told(x, 1, "on 1 player 0 piece 0 1;");
        told(x, 2, "on 1 empty;on 1 child 30;on 1 fire 9;");
        x.set(5, 0, 80);
        x.days(2);
        line(x, 0, 1, 3, NONE, 10);
        line(x, 1, 1, 4, NONE, 30);
        line(x, 2, 1, 0, 0, 81);
        line(x, 3, 1, 1, 0, 5);
        line(x, 4, 1, 0, 1, 40);
        due("lines", x.look(9), 5);
        due("fire, a night later", x.look(5), 8);
        for (int s = 0; s < 8; s++) due("flat in each of three minutes", x.string(s, 0), 3);
        due("a draw for each", x.look(10), drawn(0, 24));
    }

    @Says("a book in which each tear is led to its piece;")
    static void p18EachTearIsLedToItsPiece() {
        WeepingPiano x = recital();
        told(x, 0, "weeps 7+played*5+minute;");
        told(x, 1, "on 0 player 0 piece 0 1 0;on 1 player 1 piece 1 1;");
        x.days(2);
        x.play(1, 0);
        int[] wept = new int[2];
        for (int i = 0; i < x.look(9); i++) wept[x.book(i, 2)] += x.book(i, 1) == 0 ? x.book(i, 3) : 0;
        for (int p = 0; p < 2; p++) due("tears of piece " + p, wept[p], x.of(p, 4));
        due("by both players", x.who(0, 2) + x.who(1, 2), wept[0] + wept[1]);
        due("15 and 25 and 35", wept[0], 75);
        due("7 and 12 and 17", wept[1], 36);
    }

    @Says("in thought how days go, how long a recital is and in which order shortest, what chords are alike when moved or turned over, "
            + "how a tune goes with itself, what is the longest it says twice, which fingers, how a bar is filled, which strings beat "
            + "together, what is muddy under the pedal, whose salt it is, which pieces a player may have, who turned which page, "
            + "a game of keys;")
    static void p19AllThatIsInThoughtAndNothingOfItStays() {
        WeepingPiano x = recital();
        told(x, 1, "on 0 player 0 piece 0 1;");
        for (int v : new int[] {0, 4, 7, 0, 4, 7}) x.tone(v);
        x.period(0, 4);
        x.period(1, 6);
        x.pedal(0, 2, 0);
        x.pedal(1, 2, 1);
        x.set(4, 3, 5);
        int[] before = new int[16];
        for (int i = 0; i < 16; i++) before[i] = x.look(i);
        int[] got = {x.goes(1, 0), x.lasts(0, 3, 0), x.lasts(0, 3, 10), x.chords(1, 2, 0), x.chords(2, 1, 1), x.canon(3, 0, 1), x.tune(0),
            x.tune(3), x.bar(2, 3, 0), x.beats(0, 1), x.mud(0), x.mud(2), x.whose(1, 0), x.have(1, 0), x.pages(4, 2, 3, 0), x.game(0)};
        int[] want = {11, 4, 1, 1, 1, 3, 3, 3, 2, 12, 2, 1, 0, 2, 3, 3};
        for (int i = 0; i < want.length; i++) due("thought " + i, got[i], want[i]);
        for (int i = 0; i < 16; i++) due("look(" + i + ")", x.look(i), before[i]);
    }

    @Says("all undone that was done, and an image from which all goes on.")
    static void p36AllIsUndoneAndAllGoesOnFromAnImage() {
        WeepingPiano x = recital();
        x.set(5, 0, 100);
        x.image(true);
        int wept = x.play(0, 0);
        x.days(1);
        int water = x.look(2);
        due("undone", x.undo() && x.undo(), true);
        due("as it was", x.look(2), 100);
        due("state as it was", x.look(10), 0);
        x.set(0, 0, 0);
        due("gone back", x.image(false), true);
        due("all goes on", x.play(0, 0), wept);
        x.days(1);
        due("as before", x.look(2), water);
    }

    @Says("An object is used for at most 512 calls after it has been made; what later calls answer is free.")
    static void p01The512thCallIsAnsweredAndNoLaterOneFails() {
        WeepingPiano x = new WeepingPiano();
        for (int i = 0; i < 510; i++) x.act(2, 1 + i % 99);
        due("the 511th call: lines of the book", x.look(9), 150);
        due("the 512th call: what can be undone", x.look(15), 6);
        for (int i = 0; i < 5000; i++) {
            x.act(2, 1 + i % 99);
            x.days(20);
            x.feed(i, i, i, i, i);
            x.text(i % 4);
            x.image(i % 3 == 0);
            x.undo();
        }
    }

    // Terms: ahead of 1

    @Says("Quotients go downwards.")
    static void p08QuotientsGoDownwards() {
        int[][] all = {{1, 0, 0}, {5, 2, 0}, {6, 3, 0}, {7, 3, 1}, {8, 4, 1}, {15, 7, 2}, {999, 499, 125}};
        for (int[] v : all) {
            WeepingPiano x = new WeepingPiano();
            x.set(5, 0, v[0]);
            x.days(1);
            due("water of " + v[0], x.look(2), v[1]);
            due("salt of " + v[0], x.look(3), v[2]);
        }
    }

    @Says({"STATE of draws (an int, 0 at first); a DRAW of m: it becomes 1664525 times itself + 1013904223 (ints, which wrap), ",
        "then it is its highest 24 bits (without sign) modulo m."})
    static void p02ADraw() {
        WeepingPiano x = lawful("damps 300;");
        due("at first", x.look(10), 0);
        long state = 0;
        int[] flat = new int[8];
        for (int plays = 0; plays < 20; plays++) {
            x.play(0, 0);
            for (int s = 0; s < 8; s++) {
                state = (1664525 * state + 1013904223) % (1L << 32);
                flat[s] += (state / 256) % 1000 < 300 ? 1 : 0;
            }
            due("state", x.look(10), (int) state);
            for (int s = 0; s < 8; s++) due("flat", x.string(s, 0), flat[s]);
        }
        due("the first draw wraps nothing", drawn(0, 1), 1013904223);
        x.state(1);
        told(x, 0, "damps 1 when string=7;damps 0;");
        x.play(0, 0);
        due("of state 1", x.look(10), 1015568748);
    }

    // Terms 1

    @Says("1. PIECES 0 .. 11 as they come: LONG 1 .. 30 minutes, SAD 0 .. 9, HARD 0 .. 9;")
    static void p03PiecesAsTheyCome() {
        WeepingPiano x = new WeepingPiano();
        for (int i = 0; i < 12; i++) due("number", x.piece(1 + i * 29 / 11, i % 10, 9 - i % 10), i);
        for (int i = 0; i < 12; i++) due("as told", x.of(i, 0) * 100 + x.of(i, 1) * 10 + x.of(i, 2), (1 + i * 29 / 11) * 100 + i % 10 * 10 + 9 - i % 10);
        due("how many", x.look(0), 12);
        due("no 13th", x.piece(1, 1, 1), NONE);
        answered("long", v -> new WeepingPiano().piece(v, 5, 5), 1, 30);
        answered("sad", v -> new WeepingPiano().piece(5, v, 5), 0, 9);
        answered("hard", v -> new WeepingPiano().piece(5, 5, v), 0, 9);
    }

    @Says("PLAYED (how often, an int, 0 at first), WEPT (an int, 0 at first).")
    static void p13PlayedAndWept() {
        WeepingPiano x = recital();
        due("at first", x.of(0, 3) + x.of(0, 4) + x.of(1, 3) + x.of(1, 4), 0);
        for (int i = 1; i <= 5; i++) {
            x.play(0, 0);
            due("played", x.of(0, 3), i);
            due("wept", x.of(0, 4), 36 * i);
        }
        due("the other", x.of(1, 3) + x.of(1, 4), 0);
    }

    @Says("PLAYERS 0 .. 5 as they come: ART 0 .. 9, WISH 0 .. 9; TEARS (an int, 0 at first).")
    static void p04PlayersAsTheyCome() {
        WeepingPiano x = piano(1, 0);
        for (int i = 0; i < 6; i++) due("number", x.player(9 - i, i), i);
        for (int i = 0; i < 6; i++) due("as told", x.who(i, 0) * 100 + x.who(i, 1) * 10 + x.who(i, 2), (9 - i) * 100 + i * 10);
        due("how many", x.look(1), 6);
        due("no 7th", x.player(1, 1), NONE);
        answered("art", v -> new WeepingPiano().player(v, 5), 0, 9);
        answered("wish", v -> new WeepingPiano().player(5, v), 0, 9);
        x.play(1, 0);
        x.play(1, 0);
        for (int i = 0; i < 6; i++) due("tears of " + i, x.who(i, 2), i == 1 ? 14 : 0);
    }

    @Says("STRINGS 0 .. 7: FLAT 0 .. 50 (0 at first).")
    static void p15StringsAndHowFlatTheyAre() {
        WeepingPiano x = new WeepingPiano();
        answered("string", v -> x.string(v, 0), 0, 7);
        for (int s = 0; s < 8; s++) due("at first", x.string(s, 0), 0);
        within("flat", v -> x.set(4, 6, v), 0, 50);
        due("as told", x.string(6, 0), 50);
        WeepingPiano y = lawful("damps 1000;");
        y.set(4, 2, 49);
        for (int i = 0; i < 3; i++) y.play(0, 0);
        due("no more than 50", y.string(2, 0), 50);
        due("another", y.string(3, 0), 3);
    }

    @Says({"WATER 0 .. 999 (0 at first), SALT 0 .. 9999 (0 at first), DRY (until how much WATER the lid may be opened) 0 .. 99 (10 at first), "
        + "FIRE 0 .. 9 (0 at first), ",
        "MINUTES of play and of waiting (ints, 0 at first), DAY 0 .. 9999 (0 at first)."})
    static void p37WaterSaltDryFireMinutesAndDay() {
        WeepingPiano x = recital();
        int[] first = {0, 0, 10, 0, 0, 0, 0};
        for (int i = 0; i < 7; i++) due("look " + (2 + i), x.look(2 + i), first[i]);
        within("water", v -> x.set(5, 0, v), 0, 999);
        within("dry", v -> x.set(6, 0, v), 0, 99);
        within("fire", v -> x.set(7, 0, v), 0, 9);
        x.set(6, 0, 30);
        x.set(7, 0, 0);
        x.set(5, 0, 60);
        told(x, 0, "weeps 0;settles 8;");
        told(x, 1, "on 0 player 0 piece 0 1;");
        x.days(1);
        due("minutes of play", x.look(6), 3);
        due("60, 52, 44, 36, 28: the lid may be opened", x.look(7), 4);
        due("day", x.look(8), 1);
        WeepingPiano y = new WeepingPiano();
        salted(y, 9990);
        y.set(5, 0, 999);
        y.days(1);
        due("salt", y.look(3), 9999);
    }

    // The constants

    @Says("The constants: `NONE = -1`: None.")
    static void p01None() {
        due("NONE", WeepingPiano.NONE, -1);
    }
}
