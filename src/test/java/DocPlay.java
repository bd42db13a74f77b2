/** The document's "Terms" 3: playing, a day, by hand, the book. */
final class DocPlay extends Edge {

    /** PIECES of 1, 2, 3 .. minutes and a PLAYER, with a law. */
    private static WeepingPiano growing(int pieces, String law) {
        WeepingPiano x = new WeepingPiano();
        for (int i = 0; i < pieces; i++) x.piece(1 + i, 0, 0);
        x.player(0, 0);
        told(x, 0, law);
        return x;
    }

    @Says({"3. To PLAY a row of one to six PIECES by a PLAYER: PIECE by PIECE: LONG minutes:",
        "in each weeps is asked: WATER so much more (999 at most), WEPT, TEARS as much (as is asked);"})
    static void p06InEachMinuteItWeeps() {
        WeepingPiano x = growing(6, "weeps 3+minute;damps 0;settles 99;");
        int[] wept = {3, 7, 12, 18, 25, 33};
        int sum = 0;
        for (int i = 0; i < 6; i++) {
            sum += wept[i];
            due("what it wept", x.play(0, i), wept[i]);
            due("water", x.look(2), sum);
            due("wept", x.of(i, 4), wept[i]);
            due("tears", x.who(0, 2), sum);
        }
        x.set(5, 0, 990);
        due("what it wept beyond", x.play(0, 3), 18);
        due("water at most", x.look(2), 999);
        due("wept as asked", x.of(3, 4), 36);
        due("tears as asked", x.who(0, 2), 116);
        x = growing(6, "weeps 1 when water=998;weeps 5;damps 0;settles 99;");
        x.set(5, 0, 998);
        due("it knows the water of the minute ahead", x.play(0, 1), 6);
        x = growing(6, "weeps 3+minute;damps 0;settles 99;");
        told(x, 1, "on 0 player 0 piece 5 4 3 2 1 0;");
        due("a row of six", x.days(1), 6);
        int[] which = {5, 5, 4, 4, 3, 3, 2, 2, 1, 0};
        for (int i = 0; i < which.length; i++) due("line " + i, x.book(i, 2), which[i]);
        due("all that was wept", x.who(0, 2), 98);
    }

    @Says("then STRING by STRING: damps is asked, is it above 0, a DRAW of 1000: below it FLAT is one more (50 at most).")
    static void p06ThenStringByStringADraw() {
        WeepingPiano x = growing(4, "weeps 0;damps string*100+minute*10;");
        x.state(12345);
        x.set(4, 7, 49);
        x.play(0, 3);
        int state = 12345;
        int[] flat = {0, 0, 0, 0, 0, 0, 0, 49};
        for (int minute = 0; minute < 4; minute++) {
            for (int s = 0; s < 8; s++) {
                int damps = s * 100 + minute * 10;
                if (damps > 0) {
                    state = drawn(state, 1);
                    flat[s] = Math.min(50, flat[s] + ((state >>> 8) % 1000 < damps ? 1 : 0));
                }
            }
        }
        for (int s = 0; s < 8; s++) due("flat of " + s, x.string(s, 0), flat[s]);
        due("state", x.look(10), state);
        due("a draw of 123 is below 124", goesFlat(124, 5123 << 8), true);
        due("a draw of 123 is not below 123", goesFlat(123, 5123 << 8), false);
        x = growing(1, "weeps 40;damps 1000 when water=40;damps 0;");
        x.play(0, 0);
        due("water of this minute, when it has wept", x.string(0, 0), 1);
        x = growing(3, "weeps 0;damps 1000 when flat<2;damps 0;");
        x.play(0, 2);
        due("flat as it became in the minutes ahead", x.string(5, 0), 2);
        due("no draw in the third minute", x.look(10), drawn(0, 16));
    }

    @Says("PLAYED one more behind it.")
    static void p06PlayedIsOneMoreBehindIt() {
        WeepingPiano x = growing(2, "weeps 10+played;damps 0;settles 50+played;");
        due("not yet in its minutes", x.play(0, 1), 20);
        due("then", x.of(1, 3), 1);
        due("the next time", x.play(0, 1), 22);
        due("the other", x.of(0, 3), 0);
        x = growing(2, "weeps 90;damps 0;settles 10+played*80;");
        told(x, 1, "on 0 player 0 piece 0 0;");
        x.days(1);
        due("it counts when the lid is shut: 90 goes by 90", x.look(7), 1);
    }

    @Says("Is it not the last one: the lid is shut: as long as WATER is above DRY, and 60 minutes at most: settles is asked:")
    static void p08TheLidIsShut() {
        int[][] all = {{50, 10, 20, 2}, {50, 9, 20, 3}, {50, 50, 20, 0}, {50, 49, 1, 1}, {10, 10, 5, 0}, {11, 10, 5, 1}, {999, 10, 1, 60}, {5, 0, 0, 60}};
        for (int[] v : all) {
            WeepingPiano x = growing(2, "weeps 0;damps 0;settles " + v[2] + ";");
            told(x, 1, "on 0 player 0 piece 0 1;");
            x.set(5, 0, v[0]);
            x.set(6, 0, v[1]);
            x.days(1);
            due("water " + v[0] + ", dry " + v[1] + ", settles " + v[2], x.look(7), v[3]);
        }
        WeepingPiano x = growing(2, "weeps 99;damps 0;settles 1;");
        told(x, 1, "on 0 player 0 piece 1;");
        x.days(1);
        x.play(0, 1);
        due("behind the last one it is not", x.look(7), 0);
    }

    @Says("WATER so much less (0 at least), SALT a quarter of it (of what was asked, or of WATER, if that is less) more (9999 at most).")
    static void p08WhatGoesUnderTheLid() {
        int[][] all = {{50, 0, 20, 0, 12}, {50, 10, 20, 10, 10}, {15, 0, 99, 0, 3}, {30, 10, 7, 9, 3}, {90, 80, 90, 0, 22}, {90, 80, 88, 2, 22}};
        for (int[] v : all) {
            WeepingPiano x = growing(2, "weeps 0;damps 0;settles " + v[2] + ";");
            told(x, 1, "on 0 player 0 piece 0 1;");
            x.set(5, 0, v[0]);
            x.set(6, 0, v[1]);
            x.days(1);
            due("water of " + v[0] + ", a night later", x.look(2), v[3] / 2);
            due("salt of " + v[0] + ", a night later", x.look(3), v[4] + (v[3] - v[3] / 2) / 4);
        }
        WeepingPiano x = growing(2, "weeps 0;damps 0;settles 80;");
        salted(x, 9985);
        told(x, 1, "on " + x.look(8) + " player 0 piece 0 1;");
        x.set(5, 0, 80);
        x.days(1);
        due("salt at most", x.look(3), 9999);
    }

    @Says("MINUTES of play, of waiting are counted.")
    static void p37MinutesAreCounted() {
        WeepingPiano x = growing(6, "weeps 0;damps 0;settles 10;");
        told(x, 1, "on 0 player 0 piece 1 2;on 0 player 0 piece 3;on 1 player 0 piece 5 0 0;");
        x.set(5, 0, 45);
        x.days(1);
        due("play", x.look(6), 9);
        due("waiting", x.look(7), 4);
        x.play(0, 5);
        due("play by hand", x.look(6), 15);
        x.set(5, 0, 21);
        x.days(1);
        due("play of both days", x.look(6), 23);
        due("waiting of both days", x.look(7), 6);
    }

    // A DAY

    @Says({"A DAY. (a) Line by line of CARE for it: tune: FLAT 0; empty: SALT 0; child: WATER so much less (0 at least; no SALT);",
        "fire: FIRE; dry: DRY."})
    static void p08CareOfADay() {
        WeepingPiano x = new WeepingPiano();
        for (int s = 0; s < 8; s++) x.set(4, s, 10 + s);
        told(x, 2, "on 1 tune 3;on 1 child 30;on 1 empty;on 1 fire 7;on 1 dry 77;on 2 tune 4;");
        x.set(5, 0, 200);
        x.days(1);
        due("nothing of it the day ahead", x.look(2) + x.look(3) + x.look(5) + x.look(4) + x.string(3, 0), 100 + 25 + 0 + 10 + 13);
        x.days(1);
        for (int s = 0; s < 8; s++) due("flat of " + s, x.string(s, 0), s == 3 ? 0 : 10 + s);
        due("100 less 30, half", x.look(2), 35);
        due("salt of the night alone", x.look(3), 8);
        due("fire, a night later", x.look(5), 6);
        due("dry", x.look(4), 77);
        x = new WeepingPiano();
        told(x, 2, "on 0 child 99;on 0 fire 3;on 0 fire 5;on 0 dry 9;on 0 dry 8;");
        x.set(5, 0, 98);
        x.days(1);
        due("0 at least, no salt", x.look(2) + x.look(3), 0);
        due("line by line", x.look(5) * 10 + x.look(4), 48);
        x = new WeepingPiano();
        told(x, 2, "on 0 empty;on 0 child 40;on 0 child 40;");
        x.set(5, 0, 100);
        x.days(1);
        due("two children", x.look(2), 10);
    }

    @Says("(b) Line by line of PROGRAMME for it: PLAYED so.")
    static void p08TheProgrammeOfADay() {
        WeepingPiano x = growing(3, "weeps 1;damps 0;settles 99;");
        x.player(0, 0);
        told(x, 1, "on 1 player 0 piece 2 0;on 0 player 1 piece 1;on 1 player 1 piece 1 1 1;on 2 player 0 piece 0;");
        due("day 0", x.days(1), 1);
        due("its tears", x.who(1, 2), 2);
        due("day 1", x.days(1), 5);
        int[] which = {1, 2, 0, 1, 1, 1};
        for (int i = 0; i < 6; i++) due("line " + i, x.book(i, 2), which[i]);
        due("by the one", x.who(0, 2), 4);
        due("by the other", x.who(1, 2), 8);
        x = growing(1, "weeps 10*fire;damps 0;");
        told(x, 1, "on 0 player 0 piece 0;");
        told(x, 2, "on 0 fire 4;");
        x.days(1);
        due("care is ahead of it", x.of(0, 4), 40);
        x = growing(2, "weeps 90;damps 0;settles 1;");
        told(x, 1, "on 0 player 0 piece 0;on 0 player 0 piece 0;");
        x.days(1);
        due("the lid is not shut between rows", x.look(7), 0);
    }

    @Says("(c) Over night: WATER half, downwards; SALT a quarter of what went more (9999 at most); FIRE one less (0 at least).")
    static void p08OverNight() {
        WeepingPiano x = new WeepingPiano();
        x.set(5, 0, 101);
        x.set(7, 0, 2);
        int[][] nights = {{50, 12, 1}, {25, 18, 0}, {12, 21, 0}, {6, 22, 0}, {3, 22, 0}, {1, 22, 0}, {0, 22, 0}, {0, 22, 0}};
        for (int[] n : nights) {
            x.days(1);
            due("water", x.look(2), n[0]);
            due("salt", x.look(3), n[1]);
            due("fire", x.look(5), n[2]);
        }
        salted(x, 9999);
        x.set(5, 0, 999);
        x.days(1);
        due("salt at most", x.look(3), 9999);
    }

    @Says("(d) DAY one more.")
    static void p08DayIsOneMore() {
        WeepingPiano x = growing(1, "weeps day;damps 0;");
        told(x, 1, "on 0 player 0 piece 0;on 3 player 0 piece 0;");
        for (int d = 1; d < 6; d++) {
            x.days(1);
            due("day", x.look(8), d);
        }
        x.days(7);
        due("seven more", x.look(8), 12);
        due("one more only behind what was played", x.book(1, 3) * 100 + x.book(1, 0), 303);
    }

    // By hand, THE BOOK

    @Says("By hand: to PLAY one PIECE, to TUNE a STRING, to EMPTY the drawer, to bring a CHILD.")
    static void p07ByHand() {
        WeepingPiano x = growing(1, "weeps 9;damps 0;");
        salted(x, 20);
        int day = x.look(8);
        x.set(4, 6, 31);
        x.set(5, 0, 50);
        due("to play", x.play(0, 0), 9);
        due("to tune", x.act(0, 6), true);
        due("to empty", x.act(1, 0), true);
        due("a child", x.act(2, 40), true);
        line(x, 0, day, 0, 0, 9);
        line(x, 1, day, 2, 6, 31);
        line(x, 2, day, 3, NONE, 20);
        line(x, 3, day, 4, NONE, 40);
        due("water, salt, flat", x.look(2) * 100 + x.look(3) * 10 + x.string(6, 0), 1900);
        due("no day goes by", x.look(8), day);
    }

    @Says({"THE BOOK (150 lines; no more then):", "DAY, what (0 played, 1 waited, 2 tuned, 3 emptied, 4 a child),",
        "which (0: the PIECE; 1: the PIECE ahead; 2: the STRING; 3, 4: NONE),",
        "how much (0: what it wept; 1: minutes, a line only if above 0; 2: FLAT of before; 3: SALT of before; 4: WATER that went)."})
    static void p18TheBook() {
        WeepingPiano x = growing(3, "weeps 30;damps 0;settles 25;");
        x.set(5, 0, 80);
        x.set(4, 5, 17);
        told(x, 2, "on 2 tune 5;on 2 empty;on 2 child 99;");
        told(x, 1, "on 2 player 0 piece 2 1 2;on 2 player 0 piece 0 1;on 3 player 0 piece 0;");
        x.days(4);
        line(x, 0, 2, 2, 5, 17);
        line(x, 1, 2, 3, NONE, 15);
        line(x, 2, 2, 4, NONE, 20);
        line(x, 3, 2, 0, 2, 90);
        line(x, 4, 2, 1, 2, 4);
        line(x, 5, 2, 0, 1, 60);
        line(x, 6, 2, 1, 1, 2);
        line(x, 7, 2, 0, 2, 90);
        line(x, 8, 2, 0, 0, 30);
        line(x, 9, 2, 1, 0, 5);
        line(x, 10, 2, 0, 1, 60);
        line(x, 11, 3, 0, 0, 30);
        due("lines", x.look(9), 12);
        x.set(6, 0, 99);
        x.set(5, 0, 0);
        told(x, 1, "on 4 player 0 piece 0 0;");
        x.days(1);
        line(x, 12, 4, 0, 0, 30);
        line(x, 13, 4, 0, 0, 30);
        for (int i = 0; i < 200; i++) x.act(2, 1);
        due("150 lines", x.look(9), 150);
        line(x, 149, 5, 4, NONE, 0);
        due("no more", x.book(150, 0), NONE - 1);
        due("but it is done", x.act(2, 99), true);
    }
}
