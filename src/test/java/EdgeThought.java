import java.util.List;

/** Edges of what is in thought: promises 19 to 34. */
final class EdgeThought extends Edge {
    private static final int[] FAR = {LEAST, LEAST + 1, LEAST + 9, LEAST + 10, -2, -1, MOST - 1, MOST};

    // 19: goes

    static void p19From1To20Days() {
        for (int w = 0; w < 4; w++) {
            int what = w;
            answered("what " + w + ", n", v -> new WeepingPiano().goes(v, what), 1, 20);
        }
    }

    static void p19WhatIs0To3() {
        answered("what", v -> new WeepingPiano().goes(1, v), 0, 3);
    }

    static void p19AStringIsDampedFrom500On() {
        int[][] all = {{499, 0}, {500, 8}, {501, 8}, {1000, 8}, {1, 0}, {0, 0}};
        for (int[] v : all) {
            WeepingPiano x = lawful("weeps 0;damps " + v[0] + ";");
            told(x, 1, "on 0 player 0 piece 0;");
            due("damps " + v[0], x.goes(1, 2), v[1]);
        }
    }

    static void p19FlatIs50AtMost() {
        WeepingPiano x = lawful("weeps 0;damps 500;");
        told(x, 1, "on 0 player 0 piece 0;on 1 player 0 piece 0;");
        for (int s = 0; s < 8; s++) x.set(4, s, s < 4 ? 50 : 49);
        due("all strings, one day", x.goes(1, 2), 400);
        due("all strings, two days", x.goes(2, 2), 400);
        x.set(4, 0, 48);
        due("one is not there yet", x.goes(1, 2), 399);
    }

    static void p19ThereAreNoDrawsAndNothingStays() {
        WeepingPiano x = lawful("weeps 50;damps 1000;settles 7;");
        told(x, 1, "on 0 player 0 piece 0 1 0;");
        told(x, 2, "on 0 dry 5;on 0 fire 9;on 0 child 3;on 0 tune 0;on 0 empty;");
        x.state(9);
        x.act(2, 1);
        int[] before = new int[16];
        for (int i = 0; i < 16; i++) before[i] = x.look(i);
        for (int what = 0; what < 4; what++) x.goes(20, what);
        for (int i = 0; i < 16; i++) due("look(" + i + ")", x.look(i), before[i]);
        due("played, wept, tears", x.of(0, 3) + x.of(0, 4) + x.of(1, 4) + x.who(0, 2), 0);
        for (int s = 0; s < 8; s++) due("flat", x.string(s, 0), 0);
        due("and it is answered alike again", x.goes(20, 3), x.goes(20, 3));
    }

    static void p19WaterIs999AtMostAndSalt9999() {
        WeepingPiano x = lawful("weeps 99;damps 0;");
        told(x, 1, "on 0 player 0 piece 0;on 80 player 0 piece 0;");
        x.set(5, 0, 998);
        due("water 999, half", x.goes(1, 0), 499);
        due("salt of 500", x.goes(1, 1), 125);
        x = new WeepingPiano();
        salted(x, 9998);
        x.set(5, 0, 999);
        due("salt", x.goes(1, 1), 9999);
        due("water, ten days", x.goes(10, 0), 0);
    }

    static void p19TheLidIsShut60MinutesAtMost() {
        WeepingPiano x = lawful("weeps 99;damps 0;settles 0;");
        told(x, 1, "on 0 player 0 piece 0 1 0;on 19 player 0 piece 0 1;");
        due("two waitings", x.goes(1, 3), 120);
        due("the twentieth day is not in 19", x.goes(19, 3), 120);
        due("the twentieth day is in 20", x.goes(20, 3), 180);
    }

    static void p19WaitingIsAsItWouldStandThen() {
        WeepingPiano x = lawful("weeps 99;damps 0;settles 0;");
        told(x, 1, "on 0 player 0 piece 0 1;on 1 player 0 piece 0 1;");
        x.days(1);
        due("with what was waited", x.goes(1, 3), 120);
        due("nothing more", x.goes(2, 3), 120);
    }

    static void p19FromHowThingsAre() {
        WeepingPiano x = piano(1, 1);
        told(x, 2, "on 3 empty;on 2 child 9;");
        x.set(5, 0, 999);
        x.days(2);
        // Day 2: 249 less 9, 120. Day 3: emptied, 60, 15 of salt.
        due("water", x.goes(2, 0), 60);
        due("salt", x.goes(2, 1), 15);
    }

    static void p19WhatIsDoneBehindItIsDone() {
        for (int w = 0; w < 3; w++) {
            WeepingPiano x = lawful("weeps 20;damps 1000 when string=0;damps 0;settles 20+fire;");
            told(x, 1, "on 0 player 0 piece 0 1;");
            x.set(4, 7, 5);
            x.goes(1, 0);
            x.lasts(0, 3, 0);
            if (w == 0) due("a playing", x.play(0, 0), 20);
            if (w == 1) due("a tuning", x.act(0, 7), true);
            if (w == 2) due("a day", x.days(1), 2);
            due("lines", x.look(9), w == 2 ? 3 : 1);
            due("water", x.look(2), w == 0 ? 20 : w == 1 ? 0 : 10);
            due("draws", x.look(10), drawn(0, w == 0 ? 1 : w == 1 ? 0 : 2));
            due("flat", x.string(7, 0), w == 1 ? 0 : 5);
            due("day", x.look(8), w == 2 ? 1 : 0);
            due("kept", x.look(15), 1);
        }
    }

    static void p19WhatIsAskedBehindItIsOfHowThingsAre() {
        WeepingPiano x = lawful("weeps water+1;damps flat+2;settles water+3;");
        told(x, 1, "on 0 player 0 piece 0 1 0;");
        told(x, 2, "on 0 tune 0;");
        x.set(4, 0, 9);
        x.goes(3, 0);
        due("weeps", x.of(0, 10), 1);
        x.goes(3, 0);
        due("damps", x.damps(0, 0, 0), 11);
        x.lasts(0, 3, 0);
        due("settles", x.settles(0, 0), 3);
    }

    // 20: lasts

    static void p20APlayerThatThereIs() {
        for (int n : new int[] {1, 6}) answered("player of " + n, v -> piano(12, n).lasts(v, 1, 0), 0, n - 1);
        refused("no player", v -> piano(12, 0).lasts(v, 1, 0), 0, -1);
    }

    static void p20OneToFivePiecesThatThereAre() {
        WeepingPiano x = piano(12, 1);
        int[] good = {1, 3, 7, 15, 31, 2048, 31 << 7, 1 | 2 | 4 | 8 | 2048};
        for (int set : good) due("set " + set, x.lasts(0, set, 0), Integer.bitCount(set));
        refused("set", v -> x.lasts(0, v, 0), 0, 63, 4095, 4096, 4097, 8192, -1, LEAST, MOST, LEAST | 1, 63 << 6);
        WeepingPiano y = piano(3, 1);
        due("three", y.lasts(0, 7, 0), 3);
        refused("of three, set", v -> y.lasts(0, v, 0), 8, 9, 15, LEAST);
        refused("of none, set", v -> piano(0, 1).lasts(0, v, 0), 0, 1, -1);
    }

    static void p20WhatIs0OrTheIth() {
        WeepingPiano x = piano(12, 1);
        for (int n = 1; n <= 5; n++) {
            int set = (1 << n) - 1;
            for (int what = -3; what <= 20; what++) {
                boolean is = what == 0 || what >= 10 && what < 10 + n;
                due(n + " pieces, what " + what, x.lasts(0, set, what) != NONE, is);
            }
            refused("what", v -> x.lasts(0, set, v), FAR);
        }
    }

    static void p20ThePiecesOfTheSetAlone() {
        WeepingPiano x = piano(12, 1);
        for (int p = 0; p < 12; p++) due("piece " + p, x.lasts(0, 1 << p, 10), p);
        due("the first of 3 and 11", x.lasts(0, 1 << 3 | 1 << 11, 10), 3);
        due("the second", x.lasts(0, 1 << 3 | 1 << 11, 11), 11);
    }

    static void p20EachOrderIsFromHowThingsAre() {
        WeepingPiano x = new WeepingPiano();
        x.piece(1, 9, 0);
        x.piece(1, 8, 0);
        x.player(0, 0);
        told(x, 0, "weeps sad*5;settles 30 when salt=0;settles 1;");
        // 0 first: 45, 15, then by 1 to 10. 1 first: 40, 10: SALT is none again when that is tried.
        due("by salt", x.lasts(0, 3, 0), 3);
        due("1 first", x.lasts(0, 3, 10), 1);
        told(x, 0, "weeps 50;settles 99 when sad=8 and played=1;settles 0;");
        due("by played", x.lasts(0, 3, 0), 3);
        due("1 first", x.lasts(0, 3, 10), 1);
        x.piece(1, 7, 0);
        told(x, 0, "weeps 50 when played=0;weeps 99;settles 50 when played=1;settles 0;");
        due("three", x.lasts(0, 7, 0), 3 + 2);
        for (int i = 0; i < 3; i++) due("as they come", x.lasts(0, 7, 10 + i), i);
    }

    static void p20OneAloneIsNotWaitedFor() {
        WeepingPiano x = new WeepingPiano();
        x.piece(30, 9, 0);
        x.player(9, 0);
        x.set(5, 0, 999);
        due("minutes", x.lasts(0, 1, 0), 30);
        due("the piece", x.lasts(0, 1, 10), 0);
    }

    static void p20TheLidIsShut60MinutesAtMost() {
        WeepingPiano x = piano(5, 1);
        told(x, 0, "settles 0;");
        x.set(5, 0, 11);
        due("four waitings", x.lasts(0, 31, 0), 5 + 4 * 60);
        x.set(5, 0, 10);
        due("water that is not above dry", x.lasts(0, 31, 0), 5);
    }

    static void p20OfSeveralOrdersTheFirst() {
        WeepingPiano x = piano(12, 1);
        int[] five = {1, 4, 5, 9, 11};
        int set = 0;
        for (int p : five) set |= 1 << p;
        for (int i = 0; i < 5; i++) due("the " + i + "-th", x.lasts(0, set, 10 + i), five[i]);
        x.set(5, 0, 999);
        told(x, 0, "settles 0;");
        for (int i = 0; i < 5; i++) due("all as long, the " + i + "-th", x.lasts(0, set, 10 + i), five[i]);
    }

    static void p20TheShortestIsFoundThoughItIsTheLast() {
        // WATER counts the places: whoever is not in its own place weeps so much that it is waited for.
        WeepingPiano x = new WeepingPiano();
        for (int i = 0; i < 5; i++) x.piece(1, i, 0);
        x.player(0, 0);
        told(x, 0, "weeps 1 when sad+water=4 and played=0;weeps 50;settles 0;");
        due("minutes", x.lasts(0, 31, 0), 5);
        for (int i = 0; i < 5; i++) due("the " + i + "-th", x.lasts(0, 31, 10 + i), 4 - i);
    }

    static void p20NothingStays() {
        WeepingPiano x = piano(5, 1);
        told(x, 0, "weeps 50;damps 1000;settles 1;");
        x.state(5);
        x.act(2, 1);
        int[] before = new int[16];
        for (int i = 0; i < 16; i++) before[i] = x.look(i);
        x.lasts(0, 31, 0);
        x.lasts(0, 31, 14);
        for (int i = 0; i < 16; i++) due("look(" + i + ")", x.look(i), before[i]);
        for (int p = 0; p < 5; p++) due("played and wept", x.of(p, 3) + x.of(p, 4), 0);
        due("tears", x.who(0, 2), 0);
        for (int s = 0; s < 8; s++) due("flat", x.string(s, 0), 0);
    }

    // 21: chords

    static void p21AChordIs1To4095() {
        for (int w = 0; w <= 4; w++) {
            int what = w;
            // A chord and the same one: moved by 0; turned over only if it is so by itself, as these are.
            within("what " + w + ", a", v -> new WeepingPiano().chords(v, what < 2 ? v : 0, what) != NONE, 1, 4095);
        }
    }

    static void p21TheSecondIs1To4095() {
        refused("moved, b", v -> new WeepingPiano().chords(1, v, 0), 0, -1, 4096, LEAST, MOST);
        refused("turned, b", v -> new WeepingPiano().chords(1, v, 1), 0, -1, 4096, 4097, LEAST, MOST);
        due("b 1", new WeepingPiano().chords(1, 1, 0), 0);
        due("b 4095", new WeepingPiano().chords(4095, 4095, 1), 0);
        due("b 2048", new WeepingPiano().chords(1, 2048, 1), 11);
    }

    static void p21TheSecondIsNotAskedForOneAlone() {
        WeepingPiano x = new WeepingPiano();
        for (int b : new int[] {LEAST, -1, 0, 4096, MOST}) {
            due("held", x.chords(3, b, 2), 1);
            due("its s", x.chords(3, b, 3), 1);
            due("span", x.chords(3, b, 4), 1);
        }
    }

    static void p21WhatIs0To4() {
        answered("what", v -> new WeepingPiano().chords(1, 1, v), 0, 4);
    }

    static void p21MovedIsModulo12AndTheLeast() {
        WeepingPiano x = new WeepingPiano();
        for (int s = 0; s < 12; s++) due("up by " + s, x.chords(1, 1 << s, 0), s);
        for (int s = 0; s < 12; s++) due("from the top by " + s, x.chords(2048, 1 << (11 + s) % 12, 0), s);
        due("all tones", x.chords(4095, 4095, 0), 0);
        due("every third", x.chords(0x111, 0x222, 0), 1);
        due("every third, by 4 is by 0", x.chords(0x111, 0x111, 0), 0);
        due("as many, never", x.chords(3, 5, 0), NONE);
        due("more", x.chords(1, 3, 0), NONE);
        due("fewer", x.chords(3, 1, 0), NONE);
    }

    static void p21TurnedTakesToneTTo12LessT() {
        WeepingPiano x = new WeepingPiano();
        for (int t = 0; t < 12; t++) due("tone " + t + " to 0", x.chords(1 << t, 1, 1), t);
        due("0 stays 0", x.chords(1, 1, 1), 0);
        due("6 stays 6", x.chords(64, 64, 1), 0);
        due("11 is 1", x.chords(2048, 2, 1), 0);
        due("never", x.chords(3, 5, 1), NONE);
        due("moved alone, not turned", x.chords(0x091, 0x122, 1), NONE);
    }

    static void p21HeldIsOf1To11StepsTheLeast() {
        WeepingPiano x = new WeepingPiano();
        for (int t = 0; t < 12; t++) {
            due("one tone: none", x.chords(1 << t, 0, 2), 0);
            due("one tone: s", x.chords(1 << t, 0, 3), 1);
        }
        due("all: 12", x.chords(4095, 0, 2), 12);
        due("all: s", x.chords(4095, 0, 3), 1);
        due("0 and 11: one", x.chords(2049, 0, 2), 1);
        due("0 and 11: by 1, not 11", x.chords(2049, 0, 3), 1);
        due("0 and 6: both", x.chords(65, 0, 2), 2);
        due("0 and 6: by 6", x.chords(65, 0, 3), 6);
        due("0 and 5: by 5, not 7", x.chords(33, 0, 3), 5);
        for (int t = 1; t < 12; t++) {
            due("0 and " + t + ": how many", x.chords(1 | 1 << t, 0, 2), t == 6 ? 2 : 1);
            due("0 and " + t + ": by", x.chords(1 | 1 << t, 0, 3), Math.min(t, 12 - t));
        }
    }

    static void p21SpanIsModulo12() {
        WeepingPiano x = new WeepingPiano();
        for (int t = 0; t < 12; t++) due("one tone", x.chords(1 << t, 0, 4), 0);
        due("0 and 11", x.chords(2049, 0, 4), 1);
        due("0 and 6", x.chords(65, 0, 4), 6);
        due("0 and 7", x.chords(129, 0, 4), 5);
        due("all", x.chords(4095, 0, 4), 11);
        due("all but 0", x.chords(4094, 0, 4), 10);
        due("all but 5", x.chords(4095 - 32, 0, 4), 10);
    }

    // 22: tone

    static void p22AToneIs0To60() {
        WeepingPiano x = new WeepingPiano();
        refused("tone", x::tone, LEAST, -2, 61, MOST);
        due("0", x.tone(0), 1);
        due("60", x.tone(60), 2);
    }

    static void p22SixteenAtMost() {
        WeepingPiano x = new WeepingPiano();
        for (int i = 1; i <= 16; i++) due("how many", x.tone(i), i);
        refused("the 17th", x::tone, 0, 17, 60);
        due("rises: the 17th is not there", x.tune(2), 16);
        due("the 16th is", x.tune(25), x.tune(25));
        due("no finger for a 17th", x.tune(26), NONE);
    }

    static void p22NoneTellsThatThereIsNone() {
        WeepingPiano x = new WeepingPiano();
        due("of none", x.tone(NONE), 0);
        for (int i = 0; i < 16; i++) x.tone(i);
        due("of sixteen", x.tone(NONE), 0);
        due("rises", x.tune(2), 0);
        due("the first then", x.tone(5), 1);
        due("one alone", x.tune(2), 1);
    }

    static void p22ARefusedOneChangesNothing() {
        WeepingPiano x = new WeepingPiano();
        x.tone(3);
        x.tone(61);
        x.tone(-2);
        due("one still", x.tune(2), 1);
        due("the second", x.tone(60), 2);
    }

    // 23: tune

    private static WeepingPiano tuneOf(int... tones) {
        WeepingPiano x = new WeepingPiano();
        for (int t : tones) x.tone(t);
        return x;
    }

    private static int[] row(int n, int first, int step) {
        int[] tones = new int[n];
        for (int i = 0; i < n; i++) tones[i] = first + i * step;
        return tones;
    }

    static void p23WhatIs0To3OrATone() {
        for (int n : new int[] {0, 1, 16}) {
            WeepingPiano x = tuneOf(row(n, 0, 0));
            for (int what = -3; what <= 30; what++) {
                boolean none = what < 0 || what > 3 && what < 10 || what >= 10 + n || what == 1 && n < 16;
                due(n + " tones, what " + what, x.tune(what) == NONE, none);
            }
            refused("what", x::tune, FAR);
        }
    }

    static void p23NoneTold() {
        WeepingPiano x = new WeepingPiano();
        due("twice", x.tune(0), 0);
        due("where", x.tune(1), NONE);
        due("rises", x.tune(2), 0);
        due("cost", x.tune(3), 0);
        due("finger", x.tune(10), NONE);
    }

    static void p23TwiceOfOneAloneIs0() {
        due("one tone", tuneOf(7).tune(0), 0);
        due("two like tones", tuneOf(7, 7).tune(0), 0);
        due("where", tuneOf(7, 7).tune(1), NONE);
        due("no step twice", tuneOf(1, 2, 4, 8).tune(0), 0);
        due("a step twice", tuneOf(1, 2, 3).tune(0), 2);
    }

    static void p23TwiceTheRowsMayMeet() {
        due("sixteen like tones", tuneOf(row(16, 5, 0)).tune(0), 15);
        due("where", tuneOf(row(16, 5, 0)).tune(1), 0);
        due("sixteen steps of 4", tuneOf(row(16, 0, 4)).tune(0), 15);
        due("three", tuneOf(5, 7, 9).tune(0), 2);
        due("where", tuneOf(5, 7, 9).tune(1), 0);
        due("behind another", tuneOf(9, 5, 5, 5).tune(1), 1);
    }

    static void p23TwiceIfMovedToo() {
        WeepingPiano x = tuneOf(9, 0, 1, 3, 57, 58, 60);
        due("up to the top", x.tune(0), 3);
        due("where", x.tune(1), 1);
        x = tuneOf(58, 59, 57, 3, 4, 2);
        due("down", x.tune(0), 3);
        due("where", x.tune(1), 0);
    }

    static void p23TwiceWhereItIsFirst() {
        WeepingPiano x = tuneOf(0, 1, 10, 12, 20, 21, 30, 32);
        // 0 1 10 12 comes again as 20 21 30 32.
        due("four", x.tune(0), 4);
        due("where", x.tune(1), 0);
        x = tuneOf(0, 5, 6, 20, 22, 40, 41, 60, 58);
        due("the first of two rows of two or more", x.tune(1), 1);
        x = tuneOf(0, 7, 9, 30, 37, 50, 3, 5);
        due("two", x.tune(0), 2);
        due("0 7 is ahead of 7 9", x.tune(1), 0);
    }

    static void p23RisesIsOfTonesEachHigher() {
        due("one", tuneOf(60).tune(2), 1);
        due("alike", tuneOf(5, 5, 5).tune(2), 1);
        due("falling", tuneOf(60, 30, 0).tune(2), 1);
        due("sixteen", tuneOf(row(16, 0, 1)).tune(2), 16);
        due("at the end", tuneOf(5, 4, 4, 5, 6, 7).tune(2), 4);
        due("at the beginning", tuneOf(1, 2, 3, 3, 4).tune(2), 3);
        due("two of one length", tuneOf(1, 2, 1, 2).tune(2), 2);
    }

    static void p23FingersOfOneAndOfLikeTones() {
        WeepingPiano x = tuneOf(60);
        due("one: cost", x.tune(3), 0);
        due("one: finger", x.tune(10), 1);
        x = tuneOf(row(16, 60, 0));
        due("sixteen alike: cost", x.tune(3), 0);
        for (int i = 0; i < 16; i++) due("finger", x.tune(10 + i), 1);
    }

    static void p23FingersOverTheWholeWidth() {
        int[] tones = new int[16];
        for (int i = 0; i < 16; i++) tones[i] = i % 2 * 60;
        WeepingPiano x = tuneOf(tones);
        due("fifteen times 60 less 8", x.tune(3), 15 * 52);
        for (int i = 0; i < 16; i++) due("finger", x.tune(10 + i), i % 2 == 0 ? 1 : 5);
    }

    static void p23FingersOfAShorterTuneBehindALonger() {
        WeepingPiano x = tuneOf(0, 60, 0, 60, 0, 60);
        due("six", x.tune(3), 5 * 52);
        x.tone(NONE);
        due("none: cost", x.tune(3), 0);
        x.tone(10);
        due("one: finger", x.tune(10), 1);
        due("one: cost", x.tune(3), 0);
        x.tone(11);
        due("two: the second finger, asked first", x.tune(11), 2);
        due("two: cost", x.tune(3), 1);
    }

    private static int fingersCost(int[] tones, int[] fingers) {
        int cost = 0;
        for (int i = 1; i < tones.length; i++) {
            int far = tones[i] - tones[i - 1];
            cost += Math.abs(far - 2 * (fingers[i] - fingers[i - 1]));
            if (fingers[i] == fingers[i - 1] && far != 0) cost += 9;
        }
        return cost;
    }

    static void p23FingersOfSeveralWaysTheFirst() {
        int[][] all = {{0, 1}, {1, 0}, {0, 2, 4, 6, 8, 10}, {10, 8, 6, 4, 2, 0}, {5, 5, 6, 6, 5, 5}, {0, 1, 0, 1, 0, 1}, {0, 60, 0, 1, 1, 3},
            {7, 6, 5, 5, 9, 12}, {0, 2, 4, 6, 8, 9}, {0, 9, 9, 0, 3, 2}};
        for (int[] tones : all) {
            int ways = 1;
            for (int i = 0; i < tones.length; i++) ways *= 5;
            int least = MOST;
            int[] first = null;
            for (int way = 0; way < ways; way++) {
                int[] fingers = new int[tones.length];
                for (int i = tones.length - 1, rest = way; i >= 0; i--, rest /= 5) fingers[i] = 1 + rest % 5;
                int cost = fingersCost(tones, fingers);
                if (cost < least) {
                    least = cost;
                    first = fingers;
                }
            }
            WeepingPiano x = tuneOf(tones);
            due("cost", x.tune(3), least);
            for (int i = 0; i < tones.length; i++) due("finger " + i, x.tune(10 + i), first[i]);
        }
    }

    // 24: canon

    static void p24DIs1To15() {
        for (int w = 0; w < 2; w++) {
            int what = w;
            answered("d", v -> new WeepingPiano().canon(v, 0, what), 1, 15);
        }
    }

    static void p24HIs0To12() {
        for (int w = 0; w < 2; w++) {
            int what = w;
            answered("h", v -> new WeepingPiano().canon(1, v, what), 0, 12);
        }
    }

    static void p24WhatIs0To1() {
        answered("what", v -> new WeepingPiano().canon(1, 0, v), 0, 1);
    }

    static void p24InHowManyPlacesBothSound() {
        for (int n : new int[] {0, 1, 2, 15, 16}) {
            WeepingPiano x = tuneOf(row(n, 5, 0));
            for (int d = 1; d <= 15; d++) {
                due(n + " tones, d " + d, x.canon(d, 0, 0), Math.max(0, n - d));
                due("all alike", x.canon(d, 0, 1), Math.max(0, n - d));
            }
        }
    }

    static void p24ApartModulo12() {
        List<Integer> sweet = List.of(3, 4, 7, 8, 9, 0);
        for (int t = 0; t <= 60; t++) {
            due("up by " + t, tuneOf(0, t).canon(1, 0, 1), sweet.contains(t % 12) ? 1 : 0);
            due("down by " + t, tuneOf(t, 0).canon(1, 0, 1), sweet.contains(t % 12) ? 1 : 0);
        }
        for (int h = 0; h <= 12; h++) due("higher by " + h, tuneOf(30, 30).canon(1, h, 1), sweet.contains(h % 12) ? 1 : 0);
        for (int t = 0; t <= 24; t++) {
            for (int h = 0; h <= 12; h++) {
                boolean is = sweet.contains(Math.abs(t - h) % 12);
                due("up by " + t + ", higher by " + h, tuneOf(0, t).canon(1, h, 1), is ? 1 : 0);
            }
        }
        due("72 apart", tuneOf(60, 0).canon(1, 12, 1), 1);
        due("48 apart", tuneOf(0, 60).canon(1, 12, 1), 1);
    }

    // 25: bar

    static void p25NIs1To24() {
        for (int w = 0; w < 2; w++) {
            int what = w;
            answered("n", v -> new WeepingPiano().bar(v, 255, what), 1, 24);
        }
    }

    static void p25LengthsAreASetOf1To8OneAtLeast() {
        for (int w = 0; w < 2; w++) {
            int what = w;
            answered("lengths", v -> new WeepingPiano().bar(8, v, what), 1, 255);
        }
    }

    static void p25WhatIs0To1() {
        answered("what", v -> new WeepingPiano().bar(8, 1, v), 0, 1);
    }

    static void p25EachLengthAlone() {
        WeepingPiano x = new WeepingPiano();
        for (int length = 1; length <= 8; length++) {
            for (int n = 1; n <= 24; n++) {
                due(n + " by " + length, x.bar(n, 1 << (length - 1), 0), n % length == 0 ? 1 : 0);
                due(n + " by one " + length, x.bar(n, 1 << (length - 1), 1), n == length ? 1 : 0);
            }
        }
    }

    private static int fill(int n, int lengths, int last) {
        if (n == 0) return 1;
        int ways = 0;
        for (int l = 1; l <= 8 && l <= n; l++) {
            if ((lengths >> (l - 1) & 1) == 1 && l != last) ways += fill(n - l, lengths, last == 0 ? 0 : l);
        }
        return ways;
    }

    static void p25TheMostWays() {
        WeepingPiano x = new WeepingPiano();
        due("24 of all", x.bar(24, 255, 0), fill(24, 255, 0));
        due("24 of all, no two alike", x.bar(24, 255, 1), fill(24, 255, -1));
        due("24 of 1 and 2", x.bar(24, 3, 0), 75025);
        due("24 of 1 and 2 by turns", x.bar(24, 3, 1), 2);
    }

    // 26: period

    static void p26APeriodIs1To99() {
        within("v", v -> new WeepingPiano().period(0, v), 1, 99);
    }

    static void p26AStringIs0To7() {
        within("string", v -> new WeepingPiano().period(v, 1), 0, 7);
    }

    static void p26ARefusedOneChangesNothing() {
        WeepingPiano x = new WeepingPiano();
        for (int s = 0; s < 8; s++) {
            due("told", x.period(s, 90 + s), true);
            due("too long", x.period(s, 100), false);
            due("too short", x.period(s, 0), false);
        }
        for (int s = 0; s < 8; s++) due("as told", x.string(s, 1), 90 + s);
    }

    // 27: beats

    static void p27StringsAre0To7() {
        within("s", v -> v != NONE && new WeepingPiano().beats(v, 0) != NONE, 0, 7);
        answered("t", v -> new WeepingPiano().beats(0, v), 0, 7);
    }

    static void p27OfAllWhateverTheOtherIs() {
        WeepingPiano x = new WeepingPiano();
        x.period(7, 99);
        for (int t : new int[] {LEAST, -1, 0, 8, MOST}) due("t " + t, x.beats(NONE, t), 99);
    }

    static void p27TheLongestOfTwo() {
        WeepingPiano x = new WeepingPiano();
        x.period(0, 99);
        x.period(7, 98);
        due("99 and 98", x.beats(0, 7), 9702);
        due("98 and 99", x.beats(7, 0), 9702);
        due("99 and itself", x.beats(0, 0), 99);
        due("99 and 1", x.beats(0, 1), 99);
        x.period(7, 66);
        due("99 and 66", x.beats(0, 7), 198);
    }

    static void p27OfAllModulo1000000007() {
        WeepingPiano x = new WeepingPiano();
        int[] periods = {99, 98, 97, 95, 89, 83, 79, 73};
        java.math.BigInteger all = java.math.BigInteger.ONE;
        for (int s = 0; s < 8; s++) {
            x.period(s, periods[s]);
            java.math.BigInteger p = java.math.BigInteger.valueOf(periods[s]);
            all = all.multiply(p).divide(all.gcd(p));
            due(s + 1 + " strings", x.beats(NONE, 0), all.mod(java.math.BigInteger.valueOf(1000000007)).intValue());
        }
        due("it is more than the modulus", all.bitLength() > 31, true);
    }

    // 28: pedal

    static void p28AMinuteIs0To59() {
        refused("minute", v -> new WeepingPiano().pedal(v, 1, 0), LEAST, -2, 60, MOST);
        due("0", new WeepingPiano().pedal(0, 1, 0), 1);
        due("59", new WeepingPiano().pedal(59, 1, 0), 1);
    }

    static void p28ItLasts1To30() {
        answered("lasts", v -> new WeepingPiano().pedal(0, v, 0), 1, 30);
    }

    static void p28AToneIs0To60() {
        answered("tone", v -> new WeepingPiano().pedal(0, 1, v), 0, 60);
    }

    static void p28NineAtMost() {
        WeepingPiano x = new WeepingPiano();
        for (int i = 1; i <= 9; i++) due("how many", x.pedal(59, 30, 60), i);
        due("the tenth", x.pedal(0, 1, 0), NONE);
        due("nine", x.mud(0), 9);
        due("it is not there", x.mud(1), 59);
    }

    static void p28NoneTellsThatThereIsNone() {
        WeepingPiano x = new WeepingPiano();
        due("of none", x.pedal(NONE, 1, 0), 0);
        for (int i = 0; i < 9; i++) x.pedal(5, 1, 0);
        due("of nine, the rest is not asked", x.pedal(NONE, LEAST, MOST), 0);
        due("mud", x.mud(0), 0);
        due("the first then", x.pedal(3, 1, 0), 1);
        due("minute", x.mud(1), 3);
    }

    static void p28ARefusedOneChangesNothing() {
        WeepingPiano x = new WeepingPiano();
        x.pedal(7, 1, 0);
        int[][] wrong = {{60, 1, 0}, {-2, 1, 0}, {7, 0, 0}, {7, 31, 0}, {7, 1, -1}, {7, 1, 61}};
        for (int[] w : wrong) due("refused", x.pedal(w[0], w[1], w[2]), NONE);
        due("one", x.mud(0), 1);
        due("the second", x.pedal(7, 1, 0), 2);
    }

    // 29: mud

    static void p29WhatIs0To2() {
        answered("what", v -> new WeepingPiano().mud(v), 0, 2);
    }

    static void p29NoneTold() {
        WeepingPiano x = new WeepingPiano();
        for (int what = 0; what < 3; what++) due("mud(" + what + ")", x.mud(what), 0);
    }

    private static WeepingPiano pedalOf(int... v) {
        WeepingPiano x = new WeepingPiano();
        for (int i = 0; i + 2 < v.length; i += 3) x.pedal(v[i], v[i + 1], v[i + 2]);
        return x;
    }

    static void p29AToneSoundsAsLongAsItLasts() {
        WeepingPiano x = pedalOf(0, 1, 0, 1, 1, 1);
        due("one behind the other", x.mud(0), 1);
        due("no clash", x.mud(2), 0);
        due("told the other way, no clash", pedalOf(1, 1, 1, 0, 1, 0).mud(2), 0);
        x = pedalOf(0, 2, 0, 1, 1, 1);
        due("a minute together", x.mud(0), 2);
        due("it", x.mud(1), 1);
        due("a clash", x.mud(2), 1);
        x = pedalOf(29, 30, 0, 59, 30, 1);
        due("to minute 58", x.mud(0), 1);
        due("no clash", x.mud(2), 0);
        x = pedalOf(30, 30, 0, 59, 30, 1);
        due("to minute 59", x.mud(0), 2);
        due("it", x.mud(1), 59);
    }

    static void p29TheFirstMinuteOfTheMost() {
        due("of two alike", pedalOf(50, 1, 0, 3, 1, 0).mud(1), 3);
        due("minute 0", pedalOf(0, 30, 0).mud(1), 0);
        due("minute 59", pedalOf(59, 30, 0).mud(1), 59);
        due("two of two", pedalOf(40, 5, 0, 44, 1, 0, 10, 5, 0, 14, 9, 0).mud(1), 14);
    }

    static void p29ClashIsApartModulo12() {
        List<Integer> clash = List.of(1, 2, 10, 11);
        for (int t = 0; t <= 60; t++) {
            due("up by " + t, pedalOf(0, 1, 0, 0, 1, t).mud(2), clash.contains(t % 12) ? 1 : 0);
            due("down by " + t, pedalOf(0, 1, t, 0, 1, 0).mud(2), clash.contains(t % 12) ? 1 : 0);
        }
    }

    static void p29ClashCountsCouples() {
        WeepingPiano x = new WeepingPiano();
        for (int i = 0; i < 9; i++) x.pedal(0, 30, i % 2);
        due("five and four", x.mud(2), 20);
        x = pedalOf(0, 30, 0, 5, 1, 1, 10, 1, 2, 20, 10, 11);
        due("each with the long one alone", x.mud(2), 3);
        due("two at once", x.mud(0), 2);
    }

    // 30: whose

    static void p30VIs1To999() {
        for (int w : new int[] {0, 2}) answered("v", v -> new WeepingPiano().whose(v, w), 1, 999);
        refused("v", v -> piano(12, 1).whose(v, 1), 0, 1000, LEAST, MOST);
    }

    static void p30WhatIs0To2() {
        WeepingPiano x = wept(5);
        answered("what", v -> x.whose(5, v), 0, 2);
    }

    /** PIECES that wept so much. */
    private static WeepingPiano wept(int... much) {
        WeepingPiano x = new WeepingPiano();
        x.player(0, 0);
        for (int v : much) {
            int long0 = v % 27 == 0 && v > 99 ? 27 : 1;
            int p = x.piece(long0, 0, 0);
            told(x, 0, "weeps " + v / long0 + ";damps 0;");
            x.play(0, p);
            due("wept", x.of(p, 4), v);
        }
        return x;
    }

    static void p30NoSetAtAll() {
        for (WeepingPiano x : new WeepingPiano[] {new WeepingPiano(), piano(12, 1), wept(5, 7)}) {
            due("how many", x.whose(1, 0), 0);
            due("the least", x.whose(1, 1), NONE);
            due("in all", x.whose(1, 2), 0);
        }
    }

    static void p30TheLeastAndTheMostV() {
        WeepingPiano x = wept(1, 999, 99);
        due("1", x.whose(1, 1), 1);
        due("999", x.whose(999, 1), 2);
        due("999 in all", x.whose(999, 2), 2);
        due("100", x.whose(100, 1), 5);
        due("1000 can't be, though there is one", x.whose(1000, 0), NONE);
    }

    static void p30AllTwelve() {
        WeepingPiano x = piano(12, 1);
        told(x, 0, "weeps 1;damps 0;");
        for (int p = 0; p < 12; p++) x.play(0, p);
        due("six of twelve", x.whose(6, 0), 924);
        due("the least", x.whose(6, 1), 63);
        due("none in all", x.whose(6, 2), 0);
        due("twelve", x.whose(12, 0), 1);
        due("all", x.whose(12, 1), 4095);
        due("in all", x.whose(12, 2), 4095);
        due("thirteen", x.whose(13, 0), 0);
        x.play(0, 11);
        due("two of the last, or two others", x.whose(2, 0), 55 + 1);
    }

    static void p30PiecesThatWeptNothingMayBeThere() {
        WeepingPiano x = piano(12, 1);
        told(x, 0, "weeps 1;damps 0;");
        x.play(0, 11);
        due("how many", x.whose(1, 0), 2048);
        due("the least", x.whose(1, 1), 2048);
        due("in all", x.whose(1, 2), 2048);
    }

    // 31: have

    static void p31NIs1To12() {
        answered("n", v -> piano(12, 6).have(v, 0), 1, 12);
        answered("n, a piece", v -> piano(12, 6).have(v, 10), 1, 12);
    }

    static void p31WhatIs0OrAPiece() {
        for (int n : new int[] {0, 1, 12}) {
            WeepingPiano x = piano(n, 1);
            for (int what = -3; what <= 30; what++) {
                due(n + " pieces, what " + what, x.have(12, what) != NONE, what == 0 || what >= 10 && what < 10 + n);
            }
            refused("what", v -> x.have(1, v), FAR);
        }
    }

    static void p31NotHarderThanHisArt() {
        for (int hard = 0; hard <= 9; hard++) {
            WeepingPiano x = new WeepingPiano();
            x.piece(1, 0, hard);
            x.player(5, 0);
            due("hard " + hard, x.have(1, 0), hard <= 5 ? 1 : 0);
            due("whose", x.have(1, 10), hard <= 5 ? 0 : NONE);
        }
        WeepingPiano x = new WeepingPiano();
        x.piece(1, 0, 9);
        x.piece(1, 0, 0);
        x.player(9, 9);
        x.player(0, 0);
        due("9 and 9, 0 and 0", x.have(1, 0), 2);
    }

    static void p31EachPlayerAsManyAsN() {
        for (int n = 1; n <= 12; n++) {
            WeepingPiano x = piano(12, 1);
            due("one player, n " + n, x.have(n, 0), n);
            for (int p = 0; p < 12; p++) due("piece " + p, x.have(n, 10 + p), p < n ? 0 : NONE);
        }
        WeepingPiano x = piano(12, 6);
        due("six players of two", x.have(2, 0), 12);
        for (int p = 0; p < 12; p++) due("piece " + p, x.have(2, 10 + p), p / 2);
        due("six players of one", x.have(1, 0), 6);
        due("the sixth", x.have(1, 15), 5);
        due("the seventh", x.have(1, 16), NONE);
    }

    static void p31OneRoomIsNotGivenTwice() {
        WeepingPiano x = new WeepingPiano();
        x.piece(1, 0, 9);
        x.piece(1, 0, 0);
        x.piece(1, 0, 5);
        x.player(9, 0);
        due("one of three", x.have(1, 0), 1);
        due("the first", x.have(1, 10), 0);
        due("not the second", x.have(1, 11), NONE);
        due("two of three", x.have(2, 0), 2);
        due("not the third", x.have(2, 12), NONE);
    }

    static void p31BehindOneThatNoneMayHave() {
        WeepingPiano x = new WeepingPiano();
        x.piece(1, 0, 9);
        x.piece(1, 0, 8);
        x.piece(1, 0, 8);
        x.player(8, 0);
        x.player(8, 0);
        due("two", x.have(1, 0), 2);
        due("none has the first", x.have(1, 10), NONE);
        due("the second", x.have(1, 11), 0);
        due("the third", x.have(1, 12), 1);
    }

    static void p31WithNoPlayer() {
        WeepingPiano x = piano(12, 0);
        due("none is had", x.have(12, 0), 0);
        for (int p = 0; p < 12; p++) due("by none", x.have(12, 10 + p), NONE);
    }

    static void p31TheFirstWayThatComesToTheMost() {
        // Piece 0 may be had by both, piece 1 by player 0 alone: then piece 0 must be player 1's.
        WeepingPiano x = new WeepingPiano();
        x.piece(1, 0, 0);
        x.piece(1, 0, 9);
        x.player(9, 0);
        x.player(0, 0);
        due("two", x.have(1, 0), 2);
        due("piece 0", x.have(1, 10), 1);
        due("piece 1", x.have(1, 11), 0);
        due("with room for both, the least player", x.have(2, 10), 0);
    }

    // 32: alike

    static void p32APieceThatThereIs() {
        for (int n : new int[] {1, 12}) {
            WeepingPiano x = piano(n, 0);
            within("piece of " + n, v -> v != NONE && x.alike(v) != NONE, 0, n - 1);
        }
        refused("of none, piece", v -> piano(0, 0).alike(v), 0, 1, -2, LEAST, MOST);
    }

    static void p32HowManyGroups() {
        for (int n = 0; n <= 12; n++) due(n + " pieces", piano(n, 0).alike(NONE), n);
        WeepingPiano x = piano(12, 0);
        told(x, 3, "piece 0 like 11;");
        due("one couple", x.alike(NONE), 11);
        due("the group", x.alike(11), 1 | 1 << 11);
        due("another alone", x.alike(5), 1 << 5);
    }

    static void p32AChainOfAllTwelve() {
        for (String text : new String[] {
            "piece 0 like 1;piece 1 like 2;piece 2 like 3;piece 3 like 4;piece 4 like 5;piece 5 like 6;piece 6 like 7;piece 7 like 8;"
                + "piece 8 like 9;piece 9 like 10;piece 10 like 11;",
            "piece 11 like 10;piece 10 like 9;piece 9 like 8;piece 8 like 7;piece 7 like 6;piece 6 like 5;piece 5 like 4;piece 4 like 3;"
                + "piece 3 like 2;piece 2 like 1;piece 1 like 0;"}) {
            WeepingPiano x = piano(12, 0);
            told(x, 3, text);
            due("one group", x.alike(NONE), 1);
            for (int p = 0; p < 12; p++) due("of " + p, x.alike(p), 4095);
        }
    }

    // 33: pages

    static void p33NIs1To60() {
        answered("n", v -> new WeepingPiano().pages(v, 1, 1, 0), 1, 60);
    }

    static void p33AAndBAre1To9() {
        answered("a", v -> new WeepingPiano().pages(1, v, 1, 0), 1, 9);
        answered("b", v -> new WeepingPiano().pages(1, 1, v, 0), 1, 9);
    }

    static void p33WhatIs0To1() {
        answered("what", v -> new WeepingPiano().pages(1, 1, 1, v), 0, 1);
    }

    static void p33TheFirstAndTheLastPage() {
        WeepingPiano x = new WeepingPiano();
        int[][] all = {{1, 1, 1, 0, 0}, {1, 1, 2, 1, 0}, {1, 2, 2, 0, 1}, {1, 9, 9, 0, 1}, {2, 2, 3, 1, 1}, {60, 1, 1, 0, 0}, {60, 1, 9, 54, 0},
            {60, 9, 9, 0, 54}, {60, 6, 5, 18, 40}, {59, 6, 5, 18, 40}, {8, 9, 9, 0, 8}, {9, 9, 8, 2, 7}};
        for (int[] v : all) {
            String name = v[0] + " pages, " + v[1] + " and " + v[2];
            due(name, x.pages(v[0], v[1], v[2], 0), v[3]);
            due(name + ", none", x.pages(v[0], v[1], v[2], 1), v[4]);
            due(name + ", the other way", x.pages(v[0], v[2], v[1], 0), v[3]);
        }
    }

    // 34: game

    private static WeepingPiano flats(int... flat) {
        WeepingPiano x = new WeepingPiano();
        for (int s = 0; s < flat.length; s++) x.set(4, s, flat[s]);
        return x;
    }

    static void p34WhatIs0To1() {
        WeepingPiano x = flats(1);
        answered("what", x::game, 0, 1);
    }

    static void p34NothingToTake() {
        due("string", flats().game(0), NONE);
        due("how much", flats().game(1), NONE);
    }

    static void p34OneStringOfEachFlat() {
        for (int flat = 0; flat <= 50; flat++) {
            WeepingPiano x = flats(0, 0, 0, 0, 0, 0, 0, flat);
            due("flat " + flat, x.game(0), flat % 3 == 0 ? NONE : 7);
            due("how much of " + flat, x.game(1), flat % 3 == 0 ? NONE : flat % 3);
        }
    }

    static void p34NoMoreThanThereIs() {
        WeepingPiano x = flats(1, 2);
        due("1 and 2: of the second", x.game(0), 1);
        due("one", x.game(1), 1);
        x = flats(4, 2);
        due("4 and 2: of the first", x.game(0), 0);
        due("two", x.game(1), 2);
    }

    static void p34WhoBeginsLoses() {
        for (int[] flat : new int[][] {{1, 1}, {2, 2}, {50, 50}, {50, 2}, {3, 3, 3}, {1, 1, 2, 2}, {50, 50, 50, 50, 50, 50, 50, 50}, {3}}) {
            due("string", flats(flat).game(0), NONE);
            due("how much", flats(flat).game(1), NONE);
        }
    }

    static void p34OfSeveralTheLeast() {
        WeepingPiano x = flats(3, 1, 1, 1);
        due("string", x.game(0), 0);
        due("two of 3", x.game(1), 2);
        x = flats(0, 1, 1, 1);
        due("string", x.game(0), 1);
        due("one", x.game(1), 1);
    }
}
