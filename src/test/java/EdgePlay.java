/** Edges of playing, a day, hands and the book: promises 6 to 8 and 18. */
final class EdgePlay extends Edge {

    // 6: play

    static void p06APlayerThatThereIs() {
        for (int n : new int[] {1, 6}) answered("player of " + n, v -> piano(12, n).play(v, 0), 0, n - 1);
        refused("no player", v -> piano(12, 0).play(v, 0), 0, -1, LEAST, MOST);
    }

    static void p06APieceThatThereIs() {
        for (int n : new int[] {1, 12}) answered("piece of " + n, v -> piano(n, 6).play(0, v), 0, n - 1);
        refused("no piece", v -> piano(0, 6).play(0, v), 0, -1, LEAST, MOST);
    }

    static void p06ARefusedOneDoesNothing() {
        WeepingPiano x = lawful("weeps 9;damps 1000;");
        due("no such player", x.play(1, 0), NONE);
        due("no such piece", x.play(0, 2), NONE);
        for (int what : new int[] {2, 3, 6, 7, 9, 10, 15}) due("look(" + what + ")", x.look(what), 0);
        due("played", x.of(0, 3) + x.of(1, 3), 0);
    }

    static void p06WaterIs999AtMost() {
        int[][] all = {{998, 1, 999}, {999, 1, 999}, {900, 99, 999}, {901, 99, 999}, {997, 1, 998}, {999, 0, 999}};
        for (int[] v : all) {
            WeepingPiano x = lawful("weeps " + v[1] + ";damps 0;");
            x.set(5, 0, v[0]);
            x.play(0, 0);
            due(v[0] + " and " + v[1], x.look(2), v[2]);
        }
    }

    static void p06WeptAndTearsAreAsAskedThoughTheCaseIsFull() {
        WeepingPiano x = lawful("weeps 99;damps 0;");
        x.set(5, 0, 999);
        due("what it wept", x.play(0, 0), 99);
        due("wept", x.of(0, 4), 99);
        due("tears", x.who(0, 2), 99);
        line(x, 0, 0, 0, 0, 99);
        due("another's", x.of(1, 4), 0);
    }

    static void p06WeepsIsHeldInEachMinute() {
        String[] laws = {"weeps 100;", "weeps 99;", "weeps 0;", "weeps 0-1;", "weeps 0-50 when minute=0;weeps 60;"};
        int[] want = {198, 198, 0, 0, 60};
        for (int i = 0; i < laws.length; i++) {
            WeepingPiano x = new WeepingPiano();
            x.piece(2, 0, 0);
            x.player(0, 0);
            told(x, 0, laws[i]);
            due(laws[i], x.play(0, 0), want[i]);
        }
    }

    static void p06EachMinuteFrom0ToLongLessOne() {
        String law = "weeps 1 when minute=0;weeps 2 when minute=29;weeps 50 when minute>29;weeps 0;damps 0;";
        for (int[] v : new int[][] {{1, 1}, {29, 1}, {30, 3}}) {
            WeepingPiano x = new WeepingPiano();
            x.piece(v[0], 0, 0);
            x.player(0, 0);
            told(x, 0, law);
            due("long " + v[0], x.play(0, 0), v[1]);
            due("minutes of play", x.look(6), v[0]);
            x.play(0, 0);
            due("twice", x.of(0, 4), 2 * v[1]);
        }
    }

    static void p06NoDrawWhereDampsIsNotAbove0() {
        for (String damps : new String[] {"0", "0-1"}) {
            WeepingPiano x = lawful("damps " + damps + ";");
            x.state(77);
            x.play(0, 0);
            due("state at damps " + damps, x.look(10), 77);
        }
        WeepingPiano x = lawful("damps 1;");
        x.state(77);
        x.play(0, 0);
        due("state at damps 1", x.look(10), drawn(77, 8));
    }

    static void p06AStringIsDampedIfTheDrawIsBelow() {
        for (int d : new int[] {0, 1, 500, 998, 999}) {
            due(d + " below " + d, goesFlat(d, d << 8), false);
            due(d + " below " + (d + 1), goesFlat(d + 1, d << 8), true);
        }
    }

    static void p06FlatIs50AtMost() {
        WeepingPiano x = lawful("damps 1000;");
        x.set(4, 0, 48);
        x.set(4, 6, 49);
        x.set(4, 7, 50);
        x.play(0, 0);
        due("48", x.string(0, 0), 49);
        due("49", x.string(6, 0), 50);
        due("50", x.string(7, 0), 50);
        due("0", x.string(1, 0), 1);
        due("draws for all, the flat ones too", x.look(10), drawn(0, 8));
    }

    static void p06PlayedIsOneMoreBehindIt() {
        WeepingPiano x = new WeepingPiano();
        x.piece(2, 0, 0);
        x.piece(2, 0, 0);
        x.player(0, 0);
        told(x, 0, "weeps 5 when played=0;weeps 7 when played=1;weeps 0;damps 0;");
        due("first", x.play(0, 0), 10);
        due("second", x.play(0, 0), 14);
        due("third", x.play(0, 0), 0);
        due("the other's is its own", x.play(0, 1), 10);
        due("played", x.of(0, 3), 3);
    }

    static void p06DampsKnowsTheWaterOfThisMinute() {
        WeepingPiano x = lawful("weeps 5;damps 1000 when water=5 and string=2;damps 0;");
        x.play(0, 0);
        due("string 2", x.string(2, 0), 1);
        due("no other", x.string(1, 0) + x.string(3, 0), 0);
    }

    static void p06StringByStringInEachMinute() {
        // In the second minute a string's own flat is 1; string 0 is asked ahead of string 7.
        WeepingPiano x = new WeepingPiano();
        x.piece(2, 0, 0);
        x.player(0, 0);
        told(x, 0, "damps 1000 when string=0 or string=7 and minute=0;damps 1000 when flat=1 and minute=1 and string=7;damps 0;");
        x.play(0, 0);
        due("string 0", x.string(0, 0), 2);
        due("string 7", x.string(7, 0), 2);
        due("string 6", x.string(6, 0), 0);
        due("four draws", x.look(10), drawn(0, 4));
    }

    static void p06TheLidIsNotShutBehindTheLastOne() {
        WeepingPiano x = lawful("weeps 99;damps 0;settles 9;");
        x.set(5, 0, 900);
        x.play(0, 0);
        due("waiting", x.look(7), 0);
        due("salt", x.look(3), 0);
        due("water", x.look(2), 999);
        due("lines", x.look(9), 1);
    }

    // 7: act

    static void p07ToTuneAStringWhoseFlatIsAbove0() {
        within("string", v -> {
            WeepingPiano x = new WeepingPiano();
            for (int s = 0; s < 8; s++) x.set(4, s, 1);
            return x.act(0, v);
        }, 0, 7);
        for (int[] v : new int[][] {{0, 0}, {1, 1}, {50, 1}}) {
            WeepingPiano x = new WeepingPiano();
            x.set(4, 3, v[0]);
            due("flat " + v[0], x.act(0, 3), v[1] == 1);
            due("then", x.string(3, 0), 0);
            due("lines", x.look(9), v[1]);
            due("kept", x.look(15), v[1]);
        }
    }

    static void p07OneStringAloneIsTuned() {
        WeepingPiano x = new WeepingPiano();
        for (int s = 0; s < 8; s++) x.set(4, s, 50);
        x.act(0, 7);
        for (int s = 0; s < 8; s++) due("string " + s, x.string(s, 0), s == 7 ? 0 : 50);
        line(x, 0, 0, 2, 7, 50);
        due("again", x.act(0, 7), false);
    }

    static void p07ToEmptyWhereSaltIsAbove0() {
        WeepingPiano x = new WeepingPiano();
        due("salt 0", x.act(1, 0), false);
        due("no line", x.look(9), 0);
        due("nothing kept", x.look(15), 0);
        salted(x, 1);
        due("salt 1", x.act(1, 0), true);
        due("then", x.look(3), 0);
        line(x, 0, 1, 3, NONE, 1);
        due("again", x.act(1, 0), false);
    }

    static void p07WhoIsNotAskedToEmpty() {
        for (int who : new int[] {LEAST, -1, 100, MOST}) {
            WeepingPiano x = new WeepingPiano();
            salted(x, 2);
            due("who " + who, x.act(1, who), true);
        }
    }

    static void p07AChildTakes1To99() {
        within("takes", v -> new WeepingPiano().act(2, v), 1, 99);
    }

    static void p07WaterIs0AtLeastBehindAChildAndThereIsNoSalt() {
        int[][] all = {{0, 1, 0, 0}, {98, 99, 0, 98}, {99, 99, 0, 99}, {100, 99, 1, 99}, {1, 1, 0, 1}, {2, 1, 1, 1}, {999, 99, 900, 99}};
        for (int[] v : all) {
            WeepingPiano x = new WeepingPiano();
            x.set(5, 0, v[0]);
            due("child", x.act(2, v[1]), true);
            due("water of " + v[0] + " less " + v[1], x.look(2), v[2]);
            line(x, 0, 0, 4, NONE, v[3]);
            due("salt", x.look(3), 0);
        }
    }

    static void p07WhatIs0To2() {
        within("what", v -> {
            WeepingPiano x = new WeepingPiano();
            salted(x, 1);
            x.set(4, 1, 1);
            return x.act(v, 1);
        }, 0, 2);
    }

    static void p07ARefusedOneDoesNothing() {
        WeepingPiano x = new WeepingPiano();
        x.set(4, 0, 9);
        x.set(5, 0, 9);
        int[][] wrong = {{0, 1}, {0, 8}, {0, -1}, {1, 0}, {2, 0}, {2, 100}, {2, -1}, {3, 1}, {-1, 1}, {LEAST, 1}, {MOST, 1}};
        for (int[] w : wrong) due("act(" + w[0] + ", " + w[1] + ")", x.act(w[0], w[1]), false);
        due("flat", x.string(0, 0), 9);
        due("water", x.look(2), 9);
        due("lines and kept", x.look(9) + x.look(15), 0);
    }

    // 8: days

    static void p08From1To20GoBy() {
        answered("days", v -> new WeepingPiano().days(v), 1, 20);
        for (int n : new int[] {1, 20}) {
            WeepingPiano x = new WeepingPiano();
            due("none was played", x.days(n), 0);
            due("day", x.look(8), n);
        }
    }

    static void p08ARefusedOneDoesNothing() {
        WeepingPiano x = lawful("weeps 9;damps 0;");
        told(x, 1, "on 0 player 0 piece 0;");
        told(x, 2, "on 0 dry 5;");
        x.set(5, 0, 8);
        for (int n : new int[] {0, 21, -1, LEAST, MOST}) due("days(" + n + ")", x.days(n), NONE);
        int[] want = {2, 1, 8, 0, 10, 0, 0, 0, 0, 0, 0, 2, 1, 1, 0, 0};
        for (int what = 0; what <= 15; what++) due("look(" + what + ")", x.look(what), want[what]);
    }

    static void p08DayIs9999AtMost() {
        WeepingPiano x = new WeepingPiano();
        for (int i = 0; i < 499; i++) x.days(20);
        x.set(5, 0, 8);
        due("10000", x.days(20), NONE);
        due("nothing is done", x.look(8) * 1000 + x.look(2), 9980008);
        due("nothing is kept", x.look(15), 0);
        due("9999", x.days(19), 0);
        due("day", x.look(8), 9999);
        due("one more", x.days(1), NONE);
        due("as many as an int has", x.days(MOST), NONE);
        due("day", x.look(8), 9999);
    }

    static void p08WaterIsHalfDownwardsAndSaltAQuarterOfWhatWent() {
        int[][] all = {{0, 0, 0}, {1, 0, 0}, {2, 1, 0}, {6, 3, 0}, {7, 3, 1}, {8, 4, 1}, {15, 7, 2}, {998, 499, 124}, {999, 499, 125}};
        for (int[] v : all) {
            WeepingPiano x = new WeepingPiano();
            x.set(5, 0, v[0]);
            x.days(1);
            due("water of " + v[0], x.look(2), v[1]);
            due("salt of " + v[0], x.look(3), v[2]);
        }
    }

    static void p08SaltIs9999AtMostOverNight() {
        for (int[] v : new int[][] {{9998, 8, 9999}, {9998, 16, 9999}, {9999, 8, 9999}, {9999, 999, 9999}, {9997, 8, 9998}}) {
            WeepingPiano x = new WeepingPiano();
            salted(x, v[0]);
            x.set(5, 0, v[1]);
            x.days(1);
            due(v[0] + " of water " + v[1], x.look(3), v[2]);
        }
    }

    static void p08SaltIs9999AtMostUnderTheLid() {
        for (int[] v : new int[][] {{9998, 4, 9999}, {9998, 8, 9999}, {9999, 4, 9999}, {9997, 4, 9998}}) {
            WeepingPiano x = lawful("weeps 0;damps 0;settles " + v[1] + ";");
            salted(x, v[0]);
            x.set(6, 0, 0);
            x.set(5, 0, v[1]);
            told(x, 1, "on " + x.look(8) + " player 0 piece 0 1;");
            x.days(1);
            due("waited", x.look(7), 1);
            due(v[0] + " and a quarter of " + v[1], x.look(3), v[2]);
        }
    }

    static void p08FireIsOneLessAnd0AtLeast() {
        for (int fire : new int[] {0, 1, 2, 9}) {
            WeepingPiano x = new WeepingPiano();
            x.set(7, 0, fire);
            x.days(1);
            due("fire of " + fire, x.look(5), Math.max(0, fire - 1));
        }
        WeepingPiano x = new WeepingPiano();
        x.set(7, 0, 9);
        x.days(20);
        due("twenty nights", x.look(5), 0);
    }

    static void p08LinesForThatDayAlone() {
        WeepingPiano x = lawful("weeps 0;damps 0;");
        told(x, 1, "on 1 player 0 piece 0;");
        told(x, 2, "on 1 dry 99;");
        due("day 0", x.days(1), 0);
        due("dry", x.look(4), 10);
        due("day 1", x.days(1), 1);
        due("dry", x.look(4), 99);
        due("day 2", x.days(1), 0);
        due("played", x.of(0, 3), 1);
    }

    static void p08OnDay999AndNotOnDay1000() {
        WeepingPiano x = lawful("weeps 0;damps 0;");
        told(x, 1, "on 999 player 0 piece 0;on 0 player 0 piece 1;on 100 player 0 piece 1;");
        told(x, 2, "on 999 dry 0;on 0 dry 5;");
        for (int i = 0; i < 49; i++) x.days(20);
        x.days(19);
        due("day", x.look(8), 999);
        due("day 0 and day 100 were", x.of(1, 3), 2);
        due("dry", x.look(4), 5);
        due("day 999", x.days(1), 1);
        due("dry", x.look(4), 0);
        due("day 1000 is none of them", x.days(1), 0);
    }

    static void p08CareIsAheadOfTheProgrammeLineByLine() {
        WeepingPiano x = lawful("weeps fire;damps 0;");
        told(x, 1, "on 0 player 0 piece 0;");
        told(x, 2, "on 0 fire 9;on 0 child 99;on 0 fire 4;on 0 dry 3;on 0 dry 2;");
        x.set(5, 0, 50);
        x.days(1);
        due("wept by the last fire", x.of(0, 4), 4);
        due("fire over night", x.look(5), 3);
        due("dry by the last", x.look(4), 2);
        line(x, 0, 0, 4, NONE, 50);
        line(x, 1, 0, 0, 0, 4);
        due("night is behind it", x.look(2), 2);
    }

    static void p08TuneEmptyAndChildHaveALineThoughThereIsNothing() {
        WeepingPiano x = new WeepingPiano();
        told(x, 2, "on 0 tune 7;on 0 empty;on 0 child 99;");
        x.days(1);
        due("lines", x.look(9), 3);
        line(x, 0, 0, 2, 7, 0);
        line(x, 1, 0, 3, NONE, 0);
        line(x, 2, 0, 4, NONE, 0);
    }

    static void p08TuneEmptyAndChildDoAsByHand() {
        WeepingPiano x = new WeepingPiano();
        salted(x, 9999);
        x.set(4, 0, 50);
        x.set(4, 1, 49);
        x.set(5, 0, 100);
        int day = x.look(8);
        told(x, 2, "on " + day + " tune 0;on " + day + " empty;on " + day + " child 99;");
        x.days(1);
        due("flat", x.string(0, 0), 0);
        due("another's", x.string(1, 0), 49);
        due("salt", x.look(3), 0);
        due("water 1, half of it", x.look(2), 0);
        line(x, 0, day, 2, 0, 50);
        line(x, 1, day, 3, NONE, 9999);
        line(x, 2, day, 4, NONE, 99);
    }

    static void p08FireAndDryHaveNoLine() {
        WeepingPiano x = new WeepingPiano();
        told(x, 2, "on 0 fire 9;on 0 dry 99;on 0 fire 0;on 0 dry 0;");
        x.days(1);
        due("lines", x.look(9), 0);
        due("fire and dry", x.look(5) + x.look(4), 0);
    }

    static void p08ARowOfSixIsShutFiveTimes() {
        WeepingPiano x = lawful("weeps 20;damps 0;settles 20;");
        told(x, 1, "on 0 player 0 piece 0 1 0 1 0 1;");
        due("pieces", x.days(1), 6);
        due("minutes of play", x.look(6), 6);
        due("minutes of waiting", x.look(7), 5);
        due("salt: five times 5, and 2", x.look(3), 27);
        due("water of the last one, half", x.look(2), 10);
        due("lines", x.look(9), 11);
        for (int i = 0; i < 11; i++) {
            boolean waited = i % 2 == 1;
            line(x, i, 0, waited ? 1 : 0, i / 2 % 2, waited ? 1 : 20);
        }
    }

    static void p08ARowOfOneIsNeverShut() {
        WeepingPiano x = lawful("weeps 20;damps 0;settles 20;");
        told(x, 1, "on 0 player 0 piece 0;on 0 player 0 piece 1;");
        due("pieces", x.days(1), 2);
        due("waiting, not between lines either", x.look(7), 0);
        due("water", x.look(2), 20);
    }

    /** WATER, DRY and what settles told; a row of two PIECES that do not weep; all that is asked is answered behind it. */
    private static WeepingPiano waiting(int water, int dry, String settles) {
        WeepingPiano x = lawful("weeps 0;damps 0;" + settles);
        told(x, 1, "on 0 player 0 piece 0 1;");
        x.set(5, 0, water);
        x.set(6, 0, dry);
        x.days(1);
        return x;
    }

    static void p08TheLidIsShutAsLongAsWaterIsAboveDry() {
        int[][] all = {{10, 10, 0}, {11, 10, 1}, {9, 10, 0}, {12, 10, 2}, {0, 0, 0}, {1, 0, 1}, {99, 99, 0}, {100, 99, 1}};
        for (int[] v : all) {
            WeepingPiano x = waiting(v[0], v[1], "settles 1;");
            due("water " + v[0] + " dry " + v[1], x.look(7), v[2]);
            due("lines", x.look(9), v[2] > 0 ? 3 : 2);
        }
    }

    static void p08TheLidIsShut60MinutesAtMost() {
        int[][] all = {{69, 59, 10}, {70, 60, 10}, {71, 60, 11}, {999, 60, 939}};
        for (int[] v : all) {
            WeepingPiano x = waiting(v[0], 10, "settles 1;");
            due("water " + v[0], x.look(7), v[1]);
            due("water then, half", x.look(2), v[2] / 2);
            line(x, 1, 0, 1, 0, v[1]);
        }
        due("settles 0", waiting(11, 10, "settles 0;").look(7), 60);
        due("settles below 0", waiting(11, 10, "settles 0-9;").look(7), 60);
        due("that is no more water", waiting(20, 10, "settles 0-9;").look(2), 10);
    }

    static void p08TheMinuteOfWaitingIsFrom0To59() {
        WeepingPiano x = waiting(200, 10, "settles 1 when minute=0;settles 2 when minute=59;settles 99 when minute>59;settles 0;");
        due("water 197, half", x.look(2), 98);
        due("waited", x.look(7), 60);
    }

    static void p08WaterIs0AtLeastAndSaltAQuarterOfTheLess() {
        // Water there was, what is asked; water then, salt: of the water that went, a night's share of the rest.
        int[][] all = {{43, 99, 0, 10}, {43, 43, 0, 10}, {43, 44, 0, 10}, {43, 42, 1, 10}, {44, 99, 0, 11}, {44, 43, 1, 10}, {11, 3, 8, 1}};
        for (int[] v : all) {
            WeepingPiano x = waiting(v[0], 10, "settles " + v[1] + ";");
            due("waited", x.look(7), 1);
            due("water of " + v[0] + " less " + v[1], x.look(2), v[2] / 2);
            due("salt of " + v[0] + " less " + v[1], x.look(3), v[3]);
        }
    }

    static void p08SaltIsAQuarterInEachMinute() {
        WeepingPiano x = waiting(40, 10, "settles 3;");
        due("ten minutes of 3", x.look(7), 10);
        due("no salt of 3, one of the night's 5", x.look(3), 1);
    }

    static void p08SettlesIsHeldTo99() {
        WeepingPiano x = waiting(200, 99, "settles 100;");
        due("two minutes", x.look(7), 2);
        due("2 are left, half", x.look(2), 1);
        due("salt 24 and 24", x.look(3), 48);
    }

    static void p08WithoutALineSettlesIs3AndFire() {
        due("3", waiting(13, 10, "").look(7), 1);
        due("3, twice", waiting(14, 10, "").look(7), 2);
        WeepingPiano x = lawful("weeps 0;damps 0;");
        told(x, 1, "on 0 player 0 piece 0 1;");
        told(x, 2, "on 0 fire 9;");
        x.set(5, 0, 22);
        x.days(1);
        due("12", x.look(7), 1);
    }

    static void p08SettlesKnowsWhatWasPlayedLast() {
        WeepingPiano x = new WeepingPiano();
        x.piece(2, 9, 5);
        x.piece(1, 0, 7);
        x.player(0, 0);
        x.player(4, 3);
        told(x, 0, "weeps 6;damps 0;settles 99 when sad=9 and hard=5 and art=4 and wish=3 and played=1 and flat=0 and string=0;settles 0;");
        told(x, 1, "on 0 player 1 piece 0 1 0 1;");
        for (int s = 0; s < 8; s++) x.set(4, s, 50);
        x.days(1);
        // Behind piece 0 at once; behind piece 1 there are 6; behind piece 0 again it was played twice.
        due("waited", x.look(7), 1 + 60);
        line(x, 1, 0, 1, 0, 1);
        line(x, 4, 0, 1, 0, 60);
    }

    static void p08HowManyPiecesWerePlayed() {
        WeepingPiano x = lawful("weeps 0;damps 0;");
        told(x, 1, "on 0 player 0 piece 0 1 0 1 0 1;on 19 player 0 piece 0;on 20 player 0 piece 0 1;on 0 player 0 piece 1;");
        due("twenty days", x.days(20), 8);
        due("the next", x.days(1), 2);
    }

    static void p08SixteenLinesOnOneDay() {
        WeepingPiano x = lawful("weeps 0;damps 0;");
        told(x, 1, "on 0player 0piece 0 1;".repeat(16));
        told(x, 2, "on 0 child 1;".repeat(16));
        due("pieces", x.days(1), 32);
        due("lines", x.look(9), 48);
    }

    static void p08RowsOfSixOneBehindTheOther() {
        WeepingPiano x = piano(12, 6);
        told(x, 0, "weeps 0;damps 0;");
        told(x, 1, "on 0player 5piece 6 7 8 9 10 11;on 1player 4piece 0 1 2 3 4 5;on 0player 3piece 11 11 11 11 11 10;on 1player 2piece 0 0 0 0 0 1;");
        due("day 0", x.days(1), 12);
        int[] want = {0, 0, 0, 0, 0, 0, 1, 1, 1, 1, 2, 6};
        for (int p = 0; p < 12; p++) due("played, piece " + p, x.of(p, 3), want[p]);
        int[] row = {6, 7, 8, 9, 10, 11, 11, 11, 11, 11, 11, 10};
        for (int i = 0; i < 12; i++) line(x, i, 0, 0, row[i], 0);
        due("day 1", x.days(1), 12);
        int[] more = {6, 2, 1, 1, 1, 1};
        for (int p = 0; p < 6; p++) due("played, piece " + p, x.of(p, 3), more[p]);
    }

    // 18: book

    static void p18ALineThatThereIs() {
        for (int n : new int[] {1, 3, 150}) {
            WeepingPiano x = new WeepingPiano();
            for (int i = 0; i < n; i++) x.act(2, 1);
            within("line of " + n, v -> x.book(v, 0) != NONE - 1, 0, n - 1);
        }
        for (int i : new int[] {0, -1, LEAST, MOST, 149, 150}) due("none", new WeepingPiano().book(i, 0), NONE - 1);
    }

    static void p18WhatIs0To3() {
        WeepingPiano x = new WeepingPiano();
        x.act(2, 1);
        within("what", v -> x.book(0, v) != NONE - 1, 0, 3);
    }

    static void p18ItHas150LinesAndNoMore() {
        WeepingPiano x = new WeepingPiano();
        x.set(5, 0, 999);
        for (int i = 1; i <= 149; i++) x.act(2, 1);
        due("149", x.look(9), 149);
        x.act(2, 2);
        due("150", x.look(9), 150);
        due("a child that is not written", x.act(2, 3), true);
        due("150 still", x.look(9), 150);
        line(x, 149, 0, 4, NONE, 2);
        due("no line 150", x.book(150, 0), NONE - 1);
        due("it took water though", x.look(2), 999 - 149 - 2 - 3);
    }

    static void p18AFullBookEndsAmidADay() {
        WeepingPiano x = lawful("weeps 20;damps 0;settles 20;");
        told(x, 1, "on 0 player 0 piece 0 1;");
        for (int i = 0; i < 148; i++) x.act(2, 1);
        due("pieces", x.days(1), 2);
        due("lines", x.look(9), 150);
        line(x, 148, 0, 0, 0, 20);
        line(x, 149, 0, 1, 0, 1);
        due("the rest was played", x.of(1, 3), 1);
        due("waiting", x.look(7), 1);
        due("and by hand", x.play(0, 0), 20);
        due("lines", x.look(9), 150);
    }

    static void p18AFullBookGoesBackByUndo() {
        WeepingPiano x = new WeepingPiano();
        for (int i = 0; i < 152; i++) x.act(2, 1);
        x.undo();
        x.undo();
        due("two that were not written", x.look(9), 150);
        x.undo();
        due("one that was", x.look(9), 149);
        due("its line is gone", x.book(149, 1), NONE - 1);
        x.act(2, 5);
        due("another there", x.look(9), 150);
        line(x, 149, 0, 4, NONE, 0);
    }

    static void p18APieceThatWeptNothingHasALine() {
        WeepingPiano x = lawful("weeps 0;");
        x.days(1);
        x.play(0, 1);
        line(x, 0, 1, 0, 1, 0);
    }

    static void p18AWaitingOf0HasNoLine() {
        WeepingPiano x = waiting(10, 10, "");
        due("lines", x.look(9), 2);
        line(x, 0, 0, 0, 0, 0);
        line(x, 1, 0, 0, 1, 0);
        x = waiting(11, 10, "");
        due("lines", x.look(9), 3);
        line(x, 1, 0, 1, 0, 1);
    }

    static void p18OnTheLastDay() {
        WeepingPiano x = piano(1, 1);
        told(x, 0, "weeps 7 when day=9999;weeps 0;damps 0;");
        for (int i = 0; i < 499; i++) x.days(20);
        x.days(19);
        due("weeps", x.play(0, 0), 7);
        due("day of the line", x.book(0, 0), 9999);
    }

    static void p18TheMostThatALineTells() {
        WeepingPiano x = new WeepingPiano();
        for (int i = 0; i < 12; i++) x.piece(30, 0, 0);
        x.player(0, 0);
        told(x, 0, "weeps 99;damps 0;");
        salted(x, 9999);
        int day = x.look(8);
        due("thirty minutes of 99", x.play(0, 11), 2970);
        line(x, 0, day, 0, 11, 2970);
        x.act(1, 0);
        line(x, 1, day, 3, NONE, 9999);
        x.act(2, 99);
        line(x, 2, day, 4, NONE, 99);
        x.set(4, 7, 50);
        x.act(0, 7);
        line(x, 3, day, 2, 7, 50);
    }
}
