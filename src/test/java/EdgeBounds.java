/** Edges of what there is and what it is at first: promises 1 to 5, 13 to 17 and 37. */
final class EdgeBounds extends Edge {
    private static final int[] BEYOND = {LEAST, LEAST + 1, LEAST + 9, LEAST + 10, -2, -1, MOST - 1, MOST};

    // 1: a new object

    static void p01AllIsNoughtAtFirstButDryWhichIsTen() {
        WeepingPiano x = new WeepingPiano();
        for (int what = 0; what <= 15; what++) due("look(" + what + ")", x.look(what), what == 4 ? 10 : 0);
    }

    static void p01StringsAreInTuneAndTheirPeriodsOne() {
        WeepingPiano x = new WeepingPiano();
        for (int s = 0; s < 8; s++) {
            due("flat", x.string(s, 0), 0);
            due("period", x.string(s, 1), 1);
        }
    }

    static void p01ThereIsNoPieceAndNoPlayer() {
        WeepingPiano x = new WeepingPiano();
        due("of", x.of(0, 0), NONE);
        due("who", x.who(0, 0), NONE);
        due("play", x.play(0, 0), NONE);
        due("damps", x.damps(0, 0, 0), NONE);
        due("settles", x.settles(0, 0), NONE);
        due("lasts", x.lasts(0, 1, 0), NONE);
        due("lasts of no piece", x.lasts(0, 0, 0), NONE);
        due("groups", x.alike(NONE), 0);
        due("had", x.have(1, 0), 0);
    }

    static void p01TheTapeAndTheTextsAreEmpty() {
        WeepingPiano x = new WeepingPiano();
        due("a byte", x.end(1), false);
        due("none", x.end(0), true);
        for (int k = 0; k < 4; k++) due("lines of " + k, x.look(11 + k), 0);
        due("fault", x.fault(0), 0);
        due("place", x.fault(1), NONE);
    }

    static void p01NothingIsToldForThought() {
        WeepingPiano x = new WeepingPiano();
        due("twice", x.tune(0), 0);
        due("rises", x.tune(2), 0);
        due("canon", x.canon(1, 0, 0), 0);
        due("all beats", x.beats(NONE, 0), 1);
        due("mud", x.mud(0), 0);
        due("clash", x.mud(2), 0);
        due("game", x.game(0), NONE);
    }

    static void p01NothingCanBeUndoneAndThereIsNoImage() {
        WeepingPiano x = new WeepingPiano();
        due("undo", x.undo(), false);
        due("image", x.image(false), false);
        due("book", x.book(0, 0), NONE - 1);
    }

    static void p01AnotherObjectIsNew() {
        WeepingPiano x = piano(12, 6);
        x.set(5, 0, 999);
        x.set(4, 3, 50);
        x.period(2, 99);
        x.tone(60);
        x.image(true);
        p01AllIsNoughtAtFirstButDryWhichIsTen();
        p01StringsAreInTuneAndTheirPeriodsOne();
        p01NothingIsToldForThought();
        p01NothingCanBeUndoneAndThereIsNoImage();
    }

    static void p01TheLastOf512CallsIsAnsweredAsTheFirst() {
        WeepingPiano x = new WeepingPiano();
        for (int call = 1; call <= 511; call++) x.state(call);
        due("call 512", x.state(0), 511);
        x = piano(1, 1);
        for (int call = 3; call <= 511; call++) due("played", x.play(0, 0), 0);
        due("call 512", x.of(0, 3), 509);
        x = piano(1, 1);
        for (int call = 3; call <= 511; call++) due("day", x.days(1), 0);
        due("call 512", x.look(8), 509);
        x = new WeepingPiano();
        for (int call = 1; call <= 510; call++) x.feed(call, 0, 0, 0, 0);
        due("call 511", x.end(400), true);
        due("call 512", x.feed(0, 0, 0, 0, 0), NONE);
    }

    // 2: state

    static void p02EveryIntIsToldAndWhatItWasIsAnswered() {
        WeepingPiano x = new WeepingPiano();
        int was = 0;
        for (int v : new int[] {0, 1, -1, MOST, LEAST, 0}) {
            due("was", x.state(v), was);
            due("is", x.look(10), v);
            was = v;
        }
    }

    static void p02StateWrapsInADraw() {
        for (int v : new int[] {0, 1, -1, MOST, LEAST}) {
            WeepingPiano x = piano(1, 1);
            told(x, 0, "damps 1;");
            x.state(v);
            x.play(0, 0);
            due("eight draws from " + v, x.look(10), drawn(v, 8));
        }
    }

    static void p02ADrawIsWithoutSign() {
        // All bits: 16777215 modulo 1000 is 215.
        due("215 below 215", goesFlat(215, -1), false);
        due("215 below 216", goesFlat(216, -1), true);
        // The highest bit alone: 8388608 modulo 1000 is 608.
        due("608 below 608", goesFlat(608, LEAST), false);
        due("608 below 609", goesFlat(609, LEAST), true);
    }

    static void p02ADrawIsTheHighest24BitsAlone() {
        due("5 below 5", goesFlat(5, 5 << 8 | 255), false);
        due("5 below 6", goesFlat(6, 5 << 8 | 255), true);
        due("6 below 6", goesFlat(6, 6 << 8), false);
    }

    static void p02ADrawOf1000IsFrom0To999() {
        due("0 below 1", goesFlat(1, 0), true);
        due("0 below 0", goesFlat(0, 0), false);
        due("999 below 999", goesFlat(999, 999 << 8), false);
        due("999 below 1000", goesFlat(1000, 999 << 8), true);
        due("1000 is 0", goesFlat(1, 1000 << 8), true);
        due("1001 is 1", goesFlat(1, 1001 << 8), false);
    }

    // 3: piece

    static void p03LongIs1To30() {
        answered("minutes", v -> new WeepingPiano().piece(v, 0, 0), 1, 30);
    }

    static void p03SadIs0To9() {
        answered("sad", v -> new WeepingPiano().piece(1, v, 0), 0, 9);
    }

    static void p03HardIs0To9() {
        answered("hard", v -> new WeepingPiano().piece(1, 0, v), 0, 9);
    }

    static void p03ThePieceIsAsTold() {
        WeepingPiano x = new WeepingPiano();
        x.piece(30, 9, 0);
        x.piece(1, 0, 9);
        int[][] want = {{30, 9, 0, 0, 0, 0}, {1, 0, 9, 0, 0, 0}};
        for (int p = 0; p < 2; p++) {
            for (int w = 0; w < 6; w++) due("of(" + p + ", " + w + ")", x.of(p, w), want[p][w]);
        }
    }

    static void p03ThereAreTwelveAtMost() {
        WeepingPiano x = new WeepingPiano();
        for (int i = 0; i < 12; i++) due("number", x.piece(1 + i, i % 10, 0), i);
        due("the 13th", x.piece(30, 9, 9), NONE);
        due("how many", x.look(0), 12);
        due("no piece 12", x.of(12, 0), NONE);
        for (int i = 0; i < 12; i++) due("each as it was", x.of(i, 0) * 10 + x.of(i, 1), (1 + i) * 10 + i % 10);
    }

    static void p03ARefusedOneTakesNoNumber() {
        WeepingPiano x = new WeepingPiano();
        for (int i = 0; i < 13; i++) due("refused", x.piece(31, 0, 0), NONE);
        due("how many", x.look(0), 0);
        due("the first", x.piece(30, 0, 0), 0);
    }

    static void p03NoneIsPlayedOrHasWeptAtFirst() {
        WeepingPiano x = piano(12, 0);
        for (int i = 0; i < 12; i++) due("played and wept", x.of(i, 3) + x.of(i, 4), 0);
    }

    // 4: player

    static void p04ArtIs0To9() {
        answered("art", v -> new WeepingPiano().player(v, 0), 0, 9);
    }

    static void p04WishIs0To9() {
        answered("wish", v -> new WeepingPiano().player(0, v), 0, 9);
    }

    static void p04ThePlayerIsAsTold() {
        WeepingPiano x = new WeepingPiano();
        x.player(9, 0);
        x.player(0, 9);
        int[][] want = {{9, 0, 0}, {0, 9, 0}};
        for (int p = 0; p < 2; p++) {
            for (int w = 0; w < 3; w++) due("who(" + p + ", " + w + ")", x.who(p, w), want[p][w]);
        }
    }

    static void p04ThereAreSixAtMost() {
        WeepingPiano x = new WeepingPiano();
        for (int i = 0; i < 6; i++) due("number", x.player(i, 9 - i), i);
        due("the 7th", x.player(9, 9), NONE);
        due("how many", x.look(1), 6);
        due("no player 6", x.who(6, 0), NONE);
        for (int i = 0; i < 6; i++) due("each as it was", x.who(i, 0) * 10 + x.who(i, 1), i * 10 + 9 - i);
    }

    static void p04ARefusedOneTakesNoNumber() {
        WeepingPiano x = new WeepingPiano();
        for (int i = 0; i < 7; i++) due("refused", x.player(0, 10), NONE);
        due("how many", x.look(1), 0);
        due("the first", x.player(0, 0), 0);
    }

    static void p04NoneHasTearsAtFirst() {
        WeepingPiano x = piano(0, 6);
        for (int i = 0; i < 6; i++) due("tears", x.who(i, 2), 0);
    }

    // 5: set

    private static final int[] MOST_OF = {9, 9, 9, 9, 50, 999, 99, 9};

    private static int got(WeepingPiano x, int what) {
        switch (what) {
            case 0: return x.of(0, 1);
            case 1: return x.of(0, 2);
            case 2: return x.who(0, 0);
            case 3: return x.who(0, 1);
            case 4: return x.string(0, 0);
            case 5: return x.look(2);
            case 6: return x.look(4);
            default: return x.look(5);
        }
    }

    static void p05EachHasItsBounds() {
        for (int w = 0; w < 8; w++) {
            int what = w;
            within("what " + w + ", v", v -> piano(1, 1).set(what, 0, v), 0, MOST_OF[w]);
        }
    }

    static void p05ItIsThenAsTold() {
        WeepingPiano x = piano(1, 1);
        for (int what = 0; what < 8; what++) {
            for (int v : new int[] {MOST_OF[what], 0, 1}) {
                x.set(what, 0, v);
                due("what " + what, got(x, what), v);
            }
        }
    }

    static void p05EachChangesItselfAlone() {
        for (int what = 0; what < 8; what++) {
            WeepingPiano x = piano(1, 1);
            for (int other = 0; other < 8; other++) x.set(other, 0, 5);
            x.set(what, 0, 7);
            for (int other = 0; other < 8; other++) due("after " + what + ": " + other, got(x, other), other == what ? 7 : 5);
            due("long", x.of(0, 0), 1);
        }
    }

    static void p05ARefusedOneChangesNothing() {
        WeepingPiano x = piano(1, 1);
        for (int what = 0; what < 8; what++) {
            x.set(what, 0, 5);
            due("too much", x.set(what, 0, MOST_OF[what] + 1), false);
            due("too little", x.set(what, 0, -1), false);
            due("what " + what, got(x, what), 5);
        }
    }

    static void p05WhoIsAPieceThatThereIs() {
        for (int n : new int[] {1, 3, 12}) {
            within("sad of", v -> piano(n, 1).set(0, v, 0), 0, n - 1);
            within("hard of", v -> piano(n, 1).set(1, v, 0), 0, n - 1);
        }
        due("sad of none", piano(0, 6).set(0, 0, 0), false);
        due("hard of none", piano(0, 6).set(1, 0, 0), false);
    }

    static void p05WhoIsAPlayerThatThereIs() {
        for (int n : new int[] {1, 3, 6}) {
            within("art of", v -> piano(1, n).set(2, v, 0), 0, n - 1);
            within("wish of", v -> piano(1, n).set(3, v, 0), 0, n - 1);
        }
        due("art of none", piano(12, 0).set(2, 0, 0), false);
        due("wish of none", piano(12, 0).set(3, 0, 0), false);
    }

    static void p05WhoIsOneOfEightStrings() {
        within("flat of", v -> new WeepingPiano().set(4, v, 0), 0, 7);
        WeepingPiano x = new WeepingPiano();
        x.set(4, 7, 50);
        for (int s = 0; s < 8; s++) due("flat", x.string(s, 0), s == 7 ? 50 : 0);
    }

    static void p05WhoIsNotAskedForWaterDryAndFire() {
        WeepingPiano x = new WeepingPiano();
        for (int what = 5; what <= 7; what++) {
            for (int who : BEYOND) due("what " + what + " who " + who, x.set(what, who, 9), true);
            due("it is so", got(x, what), 9);
        }
    }

    static void p05WhatIs0To7() {
        within("what", v -> piano(1, 1).set(v, 0, 0), 0, 7);
    }

    // 13: of

    static void p13APieceThatThereIs() {
        for (int n : new int[] {1, 5, 12}) answered("of " + n + ", piece", v -> piano(n, 1).of(v, 0), 0, n - 1);
        refused("of none, piece", v -> piano(0, 1).of(v, 10), 0, -1, LEAST, MOST);
    }

    static void p13WhatIs0To5OrAPlayer() {
        for (int n : new int[] {0, 1, 6}) {
            WeepingPiano x = piano(1, n);
            for (int what = -3; what <= 30; what++) {
                boolean is = what >= 0 && what <= 5 || what >= 10 && what < 10 + n;
                due(n + " players, what " + what, x.of(0, what) != NONE, is);
            }
            refused("what", v -> x.of(0, v), BEYOND);
        }
    }

    static void p13NoneLikeItIsTheEmptySet() {
        due("no likeness", piano(2, 0).of(1, 5), 0);
        WeepingPiano x = piano(12, 0);
        told(x, 3, "piece 0 like 1;");
        due("another's", x.of(11, 5), 0);
    }

    static void p13LikeGoesEitherWayAndIsNoMoreThanTold() {
        WeepingPiano x = piano(12, 0);
        told(x, 3, "piece 11 like 0;piece 0 like 11;piece 11 like 5;");
        due("of 0", x.of(0, 5), 1 << 11);
        due("of 11", x.of(11, 5), 1 | 1 << 5);
        due("of 5, not 0 too", x.of(5, 5), 1 << 11);
    }

    static void p13WeepsIsHeldTo0To99() {
        due("99", lawful("weeps 99;").of(0, 10), 99);
        due("100", lawful("weeps 100;").of(0, 10), 99);
        due("0", lawful("weeps 0;").of(0, 10), 0);
        due("-1", lawful("weeps 0-1;").of(0, 10), 0);
        due("the most", lawful("weeps 8192*8192*32-1;").of(0, 10), 99);
        due("the least", lawful("weeps 8192*8192*32;").of(0, 10), 0);
    }

    static void p13WithoutALineWeepsIsSadAndArtLessWishHeldTo0() {
        int[][] all = {{9, 9, 0, 18}, {0, 0, 9, 0}, {0, 9, 9, 0}, {1, 9, 9, 1}, {9, 0, 9, 0}, {0, 8, 9, 0}};
        for (int[] v : all) {
            WeepingPiano x = new WeepingPiano();
            x.piece(1, v[0], 0);
            x.player(v[1], v[2]);
            due("sad " + v[0] + " art " + v[1] + " wish " + v[2], x.of(0, 10), v[3]);
        }
    }

    static void p13WeepsIsAtMinute0AndKnowsNoString() {
        due("minute", lawful("weeps 7 when minute=0;").of(0, 10), 7);
        WeepingPiano x = lawful("weeps 5+flat+string;damps 1;");
        for (int s = 0; s < 8; s++) x.set(4, s, 50);
        due("behind damps of string 7", x.damps(0, 0, 7), 1);
        due("flat and string 0", x.of(0, 10), 5);
    }

    static void p13IntsWrapInTheLaw() {
        due("sum", lawful("weeps 3 when 8192*8192*31+8192*8192+1<0;weeps 4;").of(0, 10), 3);
        due("difference", lawful("weeps 3 when 0-8192*8192*31-8192*8192-1>0;weeps 4;").of(0, 10), 3);
        due("product to 0", lawful("weeps 256*256*256*256+7;").of(0, 10), 7);
        due("product to the least", lawful("weeps 3 when 256*256*256*128<0;").of(0, 10), 3);
        due("product of 9999", lawful("weeps 3 when 9999*9999*9999<0-8192;weeps 4;").of(0, 10), 9999 * 9999 * 9999 < -8192 ? 3 : 4);
    }

    static void p13APartGoesTowards0() {
        // 462 * 4681 * 331 is 715827882, and three times that is two short of what wraps.
        due("of the least", lawful("weeps 8192*8192*32/3+462*4681*331+1;").of(0, 10), 1);
        due("of one above 0", lawful("weeps 1/2+5;").of(0, 10), 5);
        due("by 1", lawful("weeps 7/1;").of(0, 10), 7);
        due("by 9999", lawful("weeps 9999*7/9999;").of(0, 10), 7);
        due("by itself", lawful("weeps 9999/9999;").of(0, 10), 1);
        due("by one more", lawful("weeps 9998/9999;").of(0, 10), 0);
    }

    static void p13TheFirstLineThatIsSo() {
        due("a line without when ends it", lawful("weeps 1;weeps 2;").of(0, 10), 1);
        due("of 16 the last", lawful("weeps 1 when 1=2;".repeat(15) + "weeps 9;").of(0, 10), 9);
        WeepingPiano x = lawful("weeps 1 when 1=2;".repeat(16));
        due("none of 16", x.of(0, 10), 0);
        x.set(0, 0, 8);
        due("then sad", x.of(0, 10), 8);
        due("another word's line", lawful("damps 5;settles 6;").of(0, 10), 0);
    }

    static void p13AComparisonOfLikeOnes() {
        due("<", lawful("weeps 1 when 5<5;weeps 2;").of(0, 10), 2);
        due("<", lawful("weeps 1 when 4<5;weeps 2;").of(0, 10), 1);
        due(">", lawful("weeps 1 when 5>5;weeps 2;").of(0, 10), 2);
        due(">", lawful("weeps 1 when 6>5;weeps 2;").of(0, 10), 1);
        due("=", lawful("weeps 1 when 5=5;weeps 2;").of(0, 10), 1);
        due("=", lawful("weeps 1 when 5=4;weeps 2;").of(0, 10), 2);
        due("= below", lawful("weeps 1 when 4=5;weeps 2;").of(0, 10), 2);
        due("< of the ends", lawful("weeps 1 when 8192*8192*32<8192*8192*32-1;weeps 2;").of(0, 10), 1);
    }

    static void p13EachNameIsItsOwn() {
        WeepingPiano x = new WeepingPiano();
        x.piece(30, 3, 5);
        x.piece(1, 0, 0);
        x.player(0, 0);
        x.player(8, 2);
        salted(x, 7);
        x.set(5, 0, 40);
        x.set(7, 0, 6);
        told(x, 0, "weeps 0;damps 0;");
        x.play(0, 0);
        String[] names = {"sad", "hard", "art", "wish", "water", "salt", "flat", "string", "fire", "minute", "played", "day"};
        int[] want = {3, 5, 8, 2, 40, 7, 0, 0, 6, 0, 1, 1};
        for (int i = 0; i < names.length; i++) {
            told(x, 0, "weeps " + names[i] + ";damps 90+" + names[i] + ";settles " + names[i] + ";");
            due("weeps " + names[i], x.of(0, 11), want[i]);
            due("settles " + names[i], x.settles(1, 0), want[i]);
            due("damps " + names[i], x.damps(1, 0, 0), 90 + want[i]);
        }
        told(x, 0, "weeps day;");
        x.days(20);
        due("another day", x.of(0, 11), 21);
    }

    static void p13NotAndOrAtTheirEdges() {
        String[] so = {"not 1=2", "not 2<1", "not 1>2", "not not 1<2", "1<2 and 1=1", "1=1 and 2>1", "2>1 and 1<2", "1=2 or 2=1 or 1=1",
            "1=1 or 1=2 or 2=1", "1=2 or 1=1 or 2=1", "1=2 and 1=1 or 1=1", "1=1 or 1=1 and 1=2", "1=2 and 1=2 or 1=1 and 1=1 or 1=2",
            "not 1=2 or 1=1", "not(1=1 and 1=2)", "(1=2 or 1=1)and(1=1 or 1=2)"};
        String[] not = {"not 1=1", "not 1<2", "not 2>1", "not not 1=2", "1<2 and 1=2", "1=2 and 2>1", "1=2 or 2=1 or 2=3",
            "(1=1 or 1=1)and 1=2", "not 1=1 and 1=1", "not(1=2 or 1=1)", "not 1=1 or 1=2", "1=1 and 1=1 and 1=2"};
        for (String b : so) due(b, lawful("weeps 1 when " + b + ";weeps 2;").of(0, 10), 1);
        for (String b : not) due(b, lawful("weeps 1 when " + b + ";weeps 2;").of(0, 10), 2);
    }

    // 14: who

    static void p14APlayerThatThereIs() {
        for (int n : new int[] {1, 3, 6}) answered("of " + n + ", player", v -> piano(1, n).who(v, 0), 0, n - 1);
        refused("of none, player", v -> piano(12, 0).who(v, 0), 0, -1, LEAST, MOST);
    }

    static void p14WhatIs0To2() {
        answered("what", v -> piano(1, 1).who(0, v), 0, 2);
    }

    // 15: string

    static void p15AStringIs0To7() {
        answered("flat of", v -> new WeepingPiano().string(v, 0), 0, 7);
        answered("period of", v -> new WeepingPiano().string(v, 1), 0, 7);
    }

    static void p15WhatIs0To1() {
        answered("what", v -> new WeepingPiano().string(0, v), 0, 1);
        WeepingPiano x = new WeepingPiano();
        x.set(4, 7, 50);
        x.period(7, 99);
        due("flat", x.string(7, 0), 50);
        due("period", x.string(7, 1), 99);
    }

    // 16: damps

    static void p16APlayerAPieceAndAStringThatThereAre() {
        for (int n : new int[] {1, 6}) answered("player of " + n, v -> piano(12, n).damps(v, 0, 0), 0, n - 1);
        for (int n : new int[] {1, 12}) answered("piece of " + n, v -> piano(n, 6).damps(0, v, 0), 0, n - 1);
        answered("string", v -> piano(1, 1).damps(0, 0, v), 0, 7);
        refused("no player", v -> piano(1, 0).damps(v, 0, 0), 0, -1);
        refused("no piece", v -> piano(0, 1).damps(0, v, 0), 0, -1);
    }

    static void p16DampsIsHeldTo0To1000() {
        due("1000", lawful("damps 1000;").damps(0, 0, 0), 1000);
        due("1001", lawful("damps 1001;").damps(0, 0, 0), 1000);
        due("0", lawful("damps 0;").damps(0, 0, 0), 0);
        due("-1", lawful("damps 0-1;").damps(0, 0, 0), 0);
        due("999", lawful("damps 999;").damps(0, 0, 0), 999);
    }

    static void p16WithoutALineDampsIsWater() {
        WeepingPiano x = piano(1, 1);
        for (int water : new int[] {0, 1, 999}) {
            x.set(5, 0, water);
            due("water", x.damps(0, 0, 7), water);
        }
        told(x, 0, "weeps 1;settles 1;damps 3 when 1=2;");
        due("no line is so", x.damps(0, 0, 0), 999);
    }

    static void p16FlatAndStringAreTheStrings() {
        WeepingPiano x = lawful("damps flat*10+string;");
        x.set(4, 0, 50);
        x.set(4, 7, 49);
        due("string 0", x.damps(0, 0, 0), 500);
        due("string 7", x.damps(0, 0, 7), 497);
    }

    static void p16AtMinute0AndNothingIsDone() {
        WeepingPiano x = lawful("damps 1000 when minute=0;damps 1;");
        due("minute 0", x.damps(0, 0, 0), 1000);
        due("no draw", x.look(10), 0);
        due("flat", x.string(0, 0), 0);
        due("not played", x.of(0, 3), 0);
    }

    // 17: settles

    static void p17APlayerAndAPieceThatThereAre() {
        for (int n : new int[] {1, 6}) answered("player of " + n, v -> piano(12, n).settles(v, 0), 0, n - 1);
        for (int n : new int[] {1, 12}) answered("piece of " + n, v -> piano(n, 6).settles(0, v), 0, n - 1);
        refused("no player", v -> piano(1, 0).settles(v, 0), 0, -1);
        refused("no piece", v -> piano(0, 1).settles(0, v), 0, -1);
    }

    static void p17SettlesIsHeldTo0To99() {
        due("99", lawful("settles 99;").settles(0, 0), 99);
        due("100", lawful("settles 100;").settles(0, 0), 99);
        due("0", lawful("settles 0;").settles(0, 0), 0);
        due("-1", lawful("settles 0-1;").settles(0, 0), 0);
    }

    static void p17WithoutALineSettlesIs3AndFire() {
        WeepingPiano x = piano(1, 1);
        due("no fire", x.settles(0, 0), 3);
        x.set(7, 0, 9);
        due("fire 9", x.settles(0, 0), 12);
        told(x, 0, "weeps 1;damps 1;settles 5 when 1=2;");
        due("no line is so", x.settles(0, 0), 12);
    }

    static void p17AtMinute0AndItKnowsNoString() {
        WeepingPiano x = lawful("settles 7+flat+string when minute=0;settles 1;");
        for (int s = 0; s < 8; s++) x.set(4, s, 50);
        x.damps(0, 0, 7);
        due("behind damps", x.settles(0, 0), 7);
        due("nothing is done", x.look(7) + x.look(3) + x.look(9), 0);
    }

    // 37: look

    static void p37WhatIs0To15() {
        answered("what", v -> new WeepingPiano().look(v), 0, 15);
    }

    static void p37StateIsToldAsItIs() {
        WeepingPiano x = new WeepingPiano();
        for (int v : new int[] {NONE, LEAST, MOST}) {
            x.state(v);
            due("state", x.look(10), v);
        }
    }

    static void p37AllPlacesTaken() {
        WeepingPiano x = piano(12, 6);
        x.set(5, 0, 999);
        x.set(6, 0, 99);
        x.set(7, 0, 9);
        told(x, 0, "weeps 1;".repeat(16));
        told(x, 1, "on 0player 0piece 0;".repeat(16));
        told(x, 2, "on 0 empty;".repeat(16));
        told(x, 3, "piece 0 like 1;".repeat(16));
        int[] want = {12, 6, 999, 0, 99, 9, 0, 0, 0, 0, 0, 16, 16, 16, 16, 0};
        for (int what = 0; what <= 15; what++) due("look(" + what + ")", x.look(what), want[what]);
    }
}
