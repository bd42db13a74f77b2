/** Each promise of the document: ordinary inputs, the edges that it names, wrong inputs; due answers reckoned by hand. */
public final class PromisesTest {
    private static WeepingPiano x;

    private static void due(String call, long got, long want) {
        Check.due(call, got, want);
    }

    private static void due(String call, boolean got, boolean want) {
        Check.due(call, got, want);
    }

    /** A new object with some PIECES of minutes, sad, hard and some PLAYERS of art, wish. */
    private static void fresh(int[] pieces, int[] players) {
        x = new WeepingPiano();
        for (int i = 0; i + 2 < pieces.length; i += 3) x.piece(pieces[i], pieces[i + 1], pieces[i + 2]);
        for (int i = 0; i + 1 < players.length; i += 2) x.player(players[i], players[i + 1]);
    }

    private static void tell(int k, String text, int lines) {
        due("text(" + k + ") of '" + text + "'", Check.tell(x, k, text), lines);
    }

    private static String times(String s, int n) {
        return s.repeat(n);
    }

    private static void p1NewObject() {
        x = new WeepingPiano();
        int[] first = {0, 0, 0, 0, 10, 0, 0, 0, 0, 0, 0, 0, 0, 0, 0, 0};
        for (int i = 0; i < 16; i++) due("1 look(" + i + ")", x.look(i), first[i]);
        for (int s = 0; s < 8; s++) {
            due("1 flat", x.string(s, 0), 0);
            due("1 period", x.string(s, 1), 1);
        }
        due("1 NONE", WeepingPiano.NONE, -1);
        due("1 fault", x.fault(0), 0);
        due("1 fault's place", x.fault(1), -1);
        due("1 no image", x.image(false), false);
    }

    private static void p2State() {
        x = new WeepingPiano();
        due("2 state", x.state(7), 0);
        due("2 state again", x.state(Integer.MIN_VALUE), 7);
        due("2 as it is", x.look(10), Integer.MIN_VALUE);
        x.act(2, 1);
        x.state(0);
        due("2 forgets", x.look(15), 0);
    }

    private static void p3Piece() {
        x = new WeepingPiano();
        int[][] wrong = {{0, 0, 0}, {31, 0, 0}, {1, -1, 0}, {1, 10, 0}, {1, 0, -1}, {1, 0, 10}};
        for (int[] w : wrong) due("3 piece that can't be", x.piece(w[0], w[1], w[2]), -1);
        for (int i = 0; i < 12; i++) due("3 piece", x.piece(i == 0 ? 30 : 1, i % 10, 9 - i % 10), i);
        due("3 the 13th", x.piece(1, 0, 0), -1);
        due("3 how many", x.look(0), 12);
        due("3 long", x.of(0, 0), 30);
        due("3 sad", x.of(4, 1), 4);
        due("3 hard", x.of(4, 2), 5);
        x = new WeepingPiano();
        x.act(2, 1);
        x.piece(0, 0, 0);
        due("3 a wrong one forgets nothing", x.look(15), 1);
        x.piece(1, 0, 0);
        due("3 forgets", x.undo(), false);
    }

    private static void p4Player() {
        x = new WeepingPiano();
        int[][] wrong = {{-1, 0}, {10, 0}, {0, -1}, {0, 10}};
        for (int[] w : wrong) due("4 player that can't be", x.player(w[0], w[1]), -1);
        for (int i = 0; i < 6; i++) due("4 player", x.player(9 - i, i), i);
        due("4 the 7th", x.player(1, 0), -1);
        due("4 how many", x.look(1), 6);
        due("4 art", x.who(5, 0), 4);
        due("4 wish", x.who(5, 1), 5);
        x = new WeepingPiano();
        x.act(2, 1);
        x.player(1, 0);
        due("4 forgets", x.undo(), false);
    }

    private static void p5Set() {
        fresh(new int[] {1, 2, 3}, new int[] {4, 5});
        int[] most = {9, 9, 9, 9, 50, 999, 99, 9};
        for (int what = 0; what < 8; what++) {
            due("5 set " + what + " too much", x.set(what, 0, most[what] + 1), false);
            due("5 set " + what + " too little", x.set(what, 0, -1), false);
            due("5 set " + what, x.set(what, 0, most[what]), true);
        }
        int[] got = {x.of(0, 1), x.of(0, 2), x.who(0, 0), x.who(0, 1), x.string(0, 0), x.look(2), x.look(4), x.look(5)};
        for (int what = 0; what < 8; what++) due("5 it was set " + what, got[what], most[what]);
        for (int what = 0; what < 4; what++) {
            due("5 none such", x.set(what, 1, 0), false);
            due("5 none such below", x.set(what, -1, 0), false);
        }
        due("5 string 7", x.set(4, 7, 0), true);
        due("5 string 8", x.set(4, 8, 0), false);
        due("5 string -1", x.set(4, -1, 0), false);
        due("5 who is not asked", x.set(5, 77, 0), true);
        due("5 what 8", x.set(8, 0, 0), false);
        due("5 what -1", x.set(-1, 0, 0), false);
        x.act(2, 1);
        x.set(5, 0, 1000);
        due("5 a wrong one forgets nothing", x.look(15), 1);
        x.set(5, 0, 1);
        due("5 forgets", x.look(15), 0);
    }

    private static void p6Play() {
        fresh(new int[] {3, 5, 3, 1, 0, 0}, new int[] {4, 1, 0, 9});
        due("6 no such piece", x.play(0, 2), -1);
        due("6 no such player", x.play(2, 0), -1);
        due("6 neither", x.play(-1, -1), -1);
        tell(0, "damps 0;", 1);
        due("6 weeps 8 a minute", x.play(0, 0), 24);
        due("6 water", x.look(2), 24);
        due("6 minutes", x.look(6), 3);
        due("6 no waiting behind the last", x.look(7), 0);
        due("6 no draw where damps is 0", x.look(10), 0);
        due("6 tears", x.who(0, 2), 24);
        due("6 below 0 is 0", x.play(1, 1), 0);
        x.set(5, 0, 990);
        due("6 as is asked, though the case is full", x.play(0, 0), 24);
        due("6 999 at most", x.look(2), 999);
        due("6 wept", x.of(0, 4), 48);
        due("6 played", x.of(0, 3), 2);
        // One draw for each of eight strings and a minute; the first draw of state 0 is 563.
        fresh(new int[] {1, 0, 0}, new int[] {0, 0});
        tell(0, "damps 563;", 1);
        x.play(0, 0);
        due("6 563 is not below 563", x.string(0, 0), 0);
        int s = 0;
        for (int i = 0; i < 8; i++) s = s * 1664525 + 1013904223;
        due("6 eight draws", x.look(10), s);
        x.state(0);
        tell(0, "damps 564 when string=0;damps 0;", 2);
        x.set(4, 0, 49);
        x.play(0, 0);
        due("6 563 is below 564", x.string(0, 0), 50);
        x.state(0);
        x.play(0, 0);
        due("6 flat 50 at most", x.string(0, 0), 50);
        // Damps sees the water of this minute: 5 with no law.
        fresh(new int[] {1, 5, 0}, new int[] {0, 0});
        tell(0, "damps 1000 when water=5 and string=2;damps 0;", 2);
        x.play(0, 0);
        due("6 weeps first, then damps", x.string(2, 0), 1);
    }

    private static void p7Act() {
        x = new WeepingPiano();
        due("7 tune what is in tune", x.act(0, 0), false);
        due("7 string 8", x.act(0, 8), false);
        due("7 string -1", x.act(0, -1), false);
        due("7 no salt", x.act(1, 0), false);
        due("7 child 0", x.act(2, 0), false);
        due("7 child 100", x.act(2, 100), false);
        due("7 another what", x.act(3, 1), false);
        due("7 another what", x.act(-1, 1), false);
        x.set(4, 7, 50);
        due("7 tune", x.act(0, 7), true);
        due("7 tuned", x.string(7, 0), 0);
        due("7 book: what", x.book(0, 1), 2);
        due("7 book: string", x.book(0, 2), 7);
        due("7 book: flat of before", x.book(0, 3), 50);
        x.set(5, 0, 98);
        due("7 child 99", x.act(2, 99), true);
        due("7 water", x.look(2), 0);
        due("7 no salt of it", x.look(3), 0);
        due("7 book: water that went", x.book(1, 3), 98);
        due("7 book: no which", x.book(1, 2), -1);
        x.set(5, 0, 999);
        x.days(1);
        due("7 salt", x.look(3), 125);
        due("7 empty", x.act(1, 5), true);
        due("7 emptied", x.look(3), 0);
        due("7 book: salt of before", x.book(2, 3), 125);
        due("7 book: day", x.book(2, 0), 1);
        due("7 book: what", x.book(2, 1), 3);
        due("7 book: no which", x.book(2, 2), -1);
    }

    private static void p8Days() {
        fresh(new int[] {2, 5, 0, 1, 0, 0}, new int[] {3, 0});
        due("8 days(0)", x.days(0), -1);
        due("8 days(21)", x.days(21), -1);
        due("8 days(-1)", x.days(-1), -1);
        tell(0, "damps 0;", 1);
        tell(1, "on 0 player 0 piece 0 1 0;on 1 player 0 piece 1;on 0 player 0 piece 1;", 3);
        tell(2, "on 0 fire 2;on 0 dry 4;on 0 child 3;on 0 tune 1;on 0 empty;on 2 child 1;", 6);
        x.set(5, 0, 5);
        x.set(4, 1, 9);
        // Care: water 2. Piece 0: 8 8: 18. Settles 5: 13 8 3: 3 minutes, 1 1 1 salt. Piece 1: 3: 6, then 1: 1 minute, 1 salt.
        // Piece 0: 17. Second line: piece 1: 20. Night: 10, salt 2 more.
        due("8 four pieces", x.days(1), 4);
        due("8 water", x.look(2), 10);
        due("8 salt", x.look(3), 6);
        due("8 dry", x.look(4), 4);
        due("8 fire one less", x.look(5), 1);
        due("8 minutes of play", x.look(6), 6);
        due("8 minutes of waiting", x.look(7), 4);
        due("8 day", x.look(8), 1);
        due("8 tuned", x.string(1, 0), 0);
        int[][] book = {{0, 4, -1, 3}, {0, 2, 1, 9}, {0, 3, -1, 0}, {0, 0, 0, 16}, {0, 1, 0, 3}, {0, 0, 1, 3}, {0, 1, 1, 1},
            {0, 0, 0, 16}, {0, 0, 1, 3}};
        due("8 lines of the book", x.look(9), book.length);
        for (int i = 0; i < book.length; i++) {
            for (int w = 0; w < 4; w++) due("8 book(" + i + ", " + w + ")", x.book(i, w), book[i][w]);
        }
        due("8 two days", x.days(2), 1);
        // Day 1: piece 1: 13, night 6 and 7/4 salt. Day 2: child 5, night 2 and 3/4 salt.
        due("8 water then", x.look(2), 2);
        due("8 salt then", x.look(3), 7);
        due("8 fire 0 at least", x.look(5), 0);
        for (int i = 0; i < 3; i++) x.undo();
        due("8 all three days go back", x.look(8), 0);
        due("8 and the book", x.look(9), 0);
        due("8 and dry", x.look(4), 10);
        x = new WeepingPiano();
        for (int i = 0; i < 499; i++) x.days(20);
        due("8 9980", x.look(8), 9980);
        due("8 above 9999", x.days(20), -1);
        due("8 nothing is done", x.look(8), 9980);
        due("8 9999", x.days(19), 0);
        due("8 no more", x.days(1), -1);
    }

    private static void p8Waiting() {
        fresh(new int[] {1, 9, 0, 1, 0, 0}, new int[] {9, 0});
        tell(0, "damps 0;settles 0;", 2);
        tell(1, "on 0 player 0 piece 0 1;", 1);
        x.days(1);
        due("8 60 minutes at most", x.look(7), 60);
        due("8 book: waited", x.book(1, 3), 60);
        fresh(new int[] {1, 9, 0, 1, 0, 0}, new int[] {1, 0});
        tell(1, "on 0 player 0 piece 0 1;", 1);
        x.days(1);
        due("8 10 is not above 10", x.look(7), 0);
        due("8 no line of a waiting of 0", x.book(1, 1), 0);
        // Settles: minute from 0; played counts the piece that was just played; art and sad are its.
        fresh(new int[] {1, 9, 5, 1, 0, 0}, new int[] {4, 0});
        tell(0, "damps 0;settles 99 when minute=2 and played=1 and sad=9 and hard=5 and art=4 and wish=0 and flat=0 and string=0;"
                + "settles 0;", 3);
        tell(1, "on 0 player 0 piece 0 1;", 1);
        x.set(5, 0, 30);
        x.days(1);
        due("8 third minute", x.look(7), 3);
        // 43 of water go, though 99 were asked for: 10 salt; then 4 come, 2 go over night.
        due("8 salt of the water there was", x.look(3), 10);
        due("8 water", x.look(2), 2);
        fresh(new int[] {1, 0, 0}, new int[] {0, 0});
        for (int i = 0; i < 90; i++) {
            x.set(5, 0, 999);
            x.days(1);
        }
        due("8 salt 9999 at most", x.look(3), 9999);
    }

    private static void p9Feed() {
        x = new WeepingPiano();
        for (int i = 1; i <= 20; i++) due("9 feed", x.feed(0x20202020, 0x20202020, 0x20202020, 0x20202020, 0x20202020), 20 * i);
        due("9 beyond 400", x.feed(0, 0, 0, 0, 0), -1);
        due("9 nothing came", x.text(0), 0);
        x.feed(0x20202020, 0x20202020, 0x20202020, 0x20202020, 0x20202020);
        due("9 emptied ahead", x.end(21), false);
        x.end(0);
        for (int i = 0; i < 20; i++) x.feed(0x20202020, 0x20202020, 0x20202020, 0x20202020, 0x20202020);
        x.end(381);
        due("9 401 would be too many", x.feed(0, 0, 0, 0, 0), -1);
        x.end(380);
        due("9 400 are not", x.feed(0, 0, 0, 0, 0), 400);
        x.text(0);
        // "wee" then byte 0xF0: the highest byte first, bytes without sign.
        x.feed(0x776565F0, 0, 0, 0, 0);
        x.text(0);
        due("9 fault", x.fault(0), 1);
        due("9 at the word", x.fault(1), 0);
        x.feed(0x20F02020, 0, 0, 0, 0);
        x.text(0);
        due("9 the second byte", x.fault(1), 1);
        x.act(2, 1);
        x.feed(0, 0, 0, 0, 0);
        x.end(0);
        due("9 the tape forgets nothing", x.look(15), 1);
    }

    private static void p10End() {
        x = new WeepingPiano();
        due("10 end(0) of none", x.end(0), true);
        due("10 end(1) of none", x.end(1), false);
        due("10 end(-1)", x.end(-1), false);
        Check.feed(x, "weeps 1;weeps 2;");
        due("10 not so many", x.end(17), false);
        due("10 all", x.end(16), true);
        due("10 the first line", x.end(8), true);
        due("10 one line", x.text(0), 1);
    }

    private static void p11Text() {
        fresh(new int[] {1, 1, 1, 1, 1, 1}, new int[] {1, 1});
        due("11 text(4)", x.text(4), -1);
        due("11 text(-1)", x.text(-1), -1);
        tell(0, "weeps 1;\ndamps 2 ;settles3;", 3);
        due("11 look law", x.look(11), 3);
        due("11 the tape is empty then", x.end(1), false);
        tell(0, "weeps;", -1);
        due("11 it stays as it was", x.look(11), 3);
        due("11 still so", x.of(0, 10), 1);
        due("11 the tape is empty behind a fault", x.end(1), false);
        tell(0, times("weeps 1;", 16), 16);
        Check.faulty(x, 0, times("weeps 1;", 17), 3, 128);
        Check.faulty(x, 0, times("weeps 1;", 16) + "wept", 1, 128);
        tell(1, times("on 0 player 0 piece 0;", 16), 16);
        Check.faulty(x, 1, times("on 0 player 0 piece 0;", 16) + " on", 3, 353);
        tell(2, times("on 9 empty;", 16), 16);
        Check.faulty(x, 2, times("on 9 empty;", 17), 3, 176);
        tell(3, times("piece 0 like 1;", 16), 16);
        Check.faulty(x, 3, times("piece 0 like 1;", 17), 3, 240);
        for (int i = 11; i <= 14; i++) due("11 look(" + i + ")", x.look(i), 16);
        for (int k = 0; k < 4; k++) due("11 none", x.text(k), 0);
        for (int i = 11; i <= 14; i++) due("11 look(" + i + ")", x.look(i), 0);
        tell(0, "  \n ", 0);
        for (int i = 0; i < 30; i++) tell(0, "weeps 1+2+3+4+5+6+7+8+9+1+2+3+4+5+6+7+8+9;", 1);
        due("11 the thirtieth law", x.of(0, 10), 90);
    }

    private static int weeps(String law) {
        Check.due("text(0) of '" + law + "'", Check.tell(x, 0, law), law.split(";").length);
        return x.of(0, 10);
    }

    private static void p11Law() {
        fresh(new int[] {7, 3, 5}, new int[] {8, 2});
        x.set(5, 0, 40);
        x.set(7, 0, 6);
        due("11 sums from the left", weeps("weeps 9-3-2;"), 4);
        due("11 products first", weeps("weeps 2+3*4-1;"), 13);
        due("11 parts from the left", weeps("weeps 7/2*2;"), 6);
        due("11 a part goes towards 0", weeps("weeps 2-7*1/2+hard;"), 4);
        due("11 of a negative, too", weeps("weeps 5+wish*0-3/2;"), 4);
        due("11 names", weeps("weeps sad+hard+art+wish+water+fire+minute+played+day+salt+flat+string;"), 64);
        due("11 held to 99", weeps("weeps 100;"), 99);
        due("11 held to 0", weeps("weeps 0-1;"), 0);
        due("11 ints wrap", weeps("weeps 9999*9999*9999*9999;"), 99);
        due("11 wrapped: 65536 times 65536 is 0", weeps("weeps 4096*16*4096*16+7;"), 7);
        due("11 wrapped below 0", weeps("weeps 4096*4096*128+5;"), 0);
        due("11 the first line that is so", weeps("weeps 1 when sad>3;weeps 2 when sad=3;weeps 3;"), 2);
        due("11 none so", weeps("weeps 1 when sad>3;"), 9);
        due("11 another word's line", weeps("damps 1;"), 9);
        due("11 and binds more than or", weeps("weeps 1 when 1=1 or 1=1 and 1=2;weeps 2;"), 1);
        due("11 and then or", weeps("weeps 1 when 1=2 and 1=1 or 1=1;weeps 2;"), 1);
        due("11 brackets", weeps("weeps 1 when (1=1 or 1=1) and 1=2;weeps 2;"), 2);
        due("11 not takes the next alone", weeps("weeps 1 when not 1=2 or 1=1 and 2=1;weeps 2;"), 1);
        due("11 not not", weeps("weeps 1 when not not 1=2;weeps 2;"), 2);
        due("11 not of brackets", weeps("weeps 1 when not(1=2 or 2=1);weeps 2;"), 1);
        due("11 less", weeps("weeps 1 when 2<2;weeps 2 when 2<3;"), 2);
        due("11 more", weeps("weeps 1 when 2>2;weeps 2 when 3>2;"), 2);
        due("11 eight open", weeps("weeps 1 when not(not(not(not(1=1))));weeps 2;"), 1);
        due("11 closed ones do not count", weeps("weeps 1 when (1=1) and (1=1) and (1=1) and (1=1) and (1=1) and (1=1) and (1=1) "
                + "and (1=1) and (1=1) and not 1=2 and not 1=2;weeps 2;"), 1);
        due("11 numbers of 4 digits", weeps("weeps 0099;"), 99);
        due("11 words and numbers meet", weeps("weeps1when2=2or3=4;weeps3;"), 1);
        due("11 deep rows", weeps("weeps 5 when 1=2 or 1=1 and (1=2 or 1=1 and (1=2 or 1=1 and (1=2 or 1=1 and (1=2 or 1=1 and (1=2 or 1=1 "
                + "and (1=2 or 1=1 and (1=2 or 1=1 and 1+2*3<2+3*3)))))));weeps 6;"), 5);
    }

    private static void p12Fault() {
        fresh(new int[] {1, 1, 1, 1, 1, 1}, new int[] {1, 1});
        due("12 another what", x.fault(2), -1);
        due("12 another what", x.fault(-1), -1);
        Check.faulty(x, 0, "weeps", 1, 5);
        Check.faulty(x, 0, "weeps  ", 1, 7);
        Check.faulty(x, 0, "weeps 1", 1, 7);
        Check.faulty(x, 0, "weeps 1 when", 1, 12);
        Check.faulty(x, 0, "weeps 1 when 1", 1, 14);
        Check.faulty(x, 0, "weeps 1 when 1;", 1, 14);
        Check.faulty(x, 0, "weeps 1 when 1<2<3;", 1, 16);
        Check.faulty(x, 0, "weeps (1);", 1, 6);
        Check.faulty(x, 0, "weeps 1 when (1=1;", 1, 17);
        Check.faulty(x, 0, "weeps 1 when 1=1);", 1, 16);
        Check.faulty(x, 0, "weeps 1 when (1)=1;", 1, 15);
        Check.faulty(x, 0, "weeps -1;", 1, 6);
        Check.faulty(x, 0, "weeps 1+;", 1, 8);
        Check.faulty(x, 0, "weeps 1*;", 1, 8);
        Check.faulty(x, 0, "weeps 1/sad;", 1, 8);
        Check.faulty(x, 0, "weeps 1/12345;", 1, 8);
        Check.faulty(x, 0, "weeps 1/0000;", 2, 8);
        Check.faulty(x, 0, "weeps 1;;", 1, 8);
        Check.faulty(x, 0, "weep 1;", 1, 0);
        Check.faulty(x, 0, "Weeps 1;", 1, 0);
        Check.faulty(x, 0, "weeps sadx;", 1, 6);
        Check.faulty(x, 0, "weeps piece;", 1, 6);
        Check.faulty(x, 0, "weeps\t1;", 1, 5);
        Check.faulty(x, 0, "weeps 1.;", 1, 7);
        Check.faulty(x, 0, "weeps 1 when not;", 1, 16);
        Check.faulty(x, 0, "damps 1 when " + times("(", 9), 3, 21);
        Check.faulty(x, 0, "damps 1 when " + times("(", 8), 1, 21);
        Check.faulty(x, 0, "damps 1 when " + times("not(", 4) + "not 1=1;", 3, 29);
        Check.faulty(x, 0, "damps 1 when " + times("not ", 8) + "1;", 1, 46);
        Check.faulty(x, 0, "weeps 1/0 when 12345;", 2, 8);
        Check.faulty(x, 0, "when 1=1;", 1, 0);
        Check.faulty(x, 0, "weeps sadz;", 1, 6);
        Check.faulty(x, 0, "weeps sadA;", 1, 6);
        Check.faulty(x, 0, "weeps sadZ;", 1, 6);
        Check.faulty(x, 0, "weeps sad_;", 1, 9);
        Check.faulty(x, 0, times(";", 400), 1, 0);
        Check.faulty(x, 0, "weeps1" + times("+1", 197), 1, 400);
        Check.faulty(x, 0, "weeps 1" + times("+1", 196) + "+", 1, 400);
        tell(0, "weeps1" + times("*1", 196) + ";", 1);
        tell(1, "on 999 player 0 piece 0 1 0 1 0 1;", 1);
        Check.faulty(x, 1, "on 1000 player 0 piece 0;", 2, 3);
        Check.faulty(x, 1, "on player 0 piece 0;", 1, 3);
        Check.faulty(x, 1, "on 0 player 1 piece 0;", 2, 12);
        Check.faulty(x, 1, "on 0 player 0 piece 2;", 2, 20);
        Check.faulty(x, 1, "on 0 player 0 piece 0 1 0 1 0 1 2;", 2, 32);
        Check.faulty(x, 1, "on 0 player 0 piece 0 1 0 1 0 1 1;", 3, 32);
        Check.faulty(x, 1, "on 0 player 0 piece 0 1 0 1 0 1 12345;", 1, 32);
        Check.faulty(x, 1, "on 0 player 0 piece 0+1;", 1, 21);
        Check.faulty(x, 1, "on 0 piece 0;", 1, 5);
        Check.faulty(x, 1, "weeps 1;", 1, 0);
        tell(2, "on 0 tune 7;on 999 child 99;on 0 child 1;on 0 fire 9;on 0 fire 0;on 0 dry 99;on 0 dry 0;on 0 empty;", 8);
        Check.faulty(x, 2, "on 1000 empty;", 2, 3);
        Check.faulty(x, 2, "on 0 tune 8;", 2, 10);
        Check.faulty(x, 2, "on 0 tune;", 1, 9);
        Check.faulty(x, 2, "on 0 child 0;", 2, 11);
        Check.faulty(x, 2, "on 0 child 100;", 2, 11);
        Check.faulty(x, 2, "on 0 fire 10;", 2, 10);
        Check.faulty(x, 2, "on 0 dry 100;", 2, 9);
        Check.faulty(x, 2, "on 0 empty 0;", 1, 11);
        Check.faulty(x, 2, "on 0 like 0;", 1, 5);
        Check.faulty(x, 2, "on 0 sad 0;", 1, 5);
        Check.faulty(x, 2, "on 0 ;", 1, 5);
        Check.faulty(x, 3, "piece 0 like 0;", 2, 13);
        Check.faulty(x, 3, "piece 2 like 0;", 2, 6);
        Check.faulty(x, 3, "piece 0 like 2;", 2, 13);
        Check.faulty(x, 3, "piece 0 piece 1;", 1, 8);
        Check.faulty(x, 3, "piece 0 like 1", 1, 14);
        Check.faulty(x, 3, "on 0 empty;", 1, 0);
        Check.tell(x, 9, "nothing");
        due("12 no such text: 0", x.fault(0), 0);
        due("12 no place", x.fault(1), -1);
        x = new WeepingPiano();
        Check.faulty(x, 3, "piece 0 like 1;", 2, 6);
        Check.faulty(x, 1, "on 0 player 0 piece 0;", 2, 12);
    }

    private static void p13Of() {
        fresh(new int[] {9, 3, 5, 1, 0, 0, 2, 9, 9}, new int[] {8, 2, 0, 9});
        due("13 long", x.of(0, 0), 9);
        due("13 sad", x.of(0, 1), 3);
        due("13 hard", x.of(0, 2), 5);
        due("13 played", x.of(0, 3), 0);
        due("13 wept", x.of(0, 4), 0);
        due("13 weeps by 0", x.of(0, 10), 9);
        due("13 weeps by 1", x.of(0, 11), 0);
        due("13 no player 2", x.of(0, 12), -1);
        due("13 what 6", x.of(0, 6), -1);
        due("13 what 9", x.of(0, 9), -1);
        due("13 what -1", x.of(0, -1), -1);
        due("13 no piece 3", x.of(3, 0), -1);
        due("13 no piece -1", x.of(-1, 0), -1);
        tell(3, "piece 0 like 2;piece 1 like 0;piece 2 like 0;", 3);
        due("13 like 0", x.of(0, 5), 6);
        due("13 like 1", x.of(1, 5), 1);
        due("13 like 2", x.of(2, 5), 1);
        x.play(0, 0);
        due("13 played once", x.of(0, 3), 1);
        due("13 wept", x.of(0, 4), 81);
    }

    private static void p14to17() {
        fresh(new int[] {1, 3, 5}, new int[] {8, 2});
        due("14 art", x.who(0, 0), 8);
        due("14 wish", x.who(0, 1), 2);
        due("14 tears", x.who(0, 2), 0);
        due("14 what 3", x.who(0, 3), -1);
        due("14 what -1", x.who(0, -1), -1);
        due("14 none such", x.who(1, 0), -1);
        due("14 none such", x.who(-1, 0), -1);
        x.play(0, 0);
        due("14 tears", x.who(0, 2), 9);
        x.set(4, 7, 12);
        x.period(7, 13);
        due("15 flat", x.string(7, 0), 12);
        due("15 period", x.string(7, 1), 13);
        due("15 what 2", x.string(7, 2), -1);
        due("15 what -1", x.string(7, -1), -1);
        due("15 none such", x.string(8, 0), -1);
        due("15 none such", x.string(-1, 0), -1);
        x.set(5, 0, 321);
        due("16 no law: water", x.damps(0, 0, 7), 321);
        tell(0, "damps flat*10+string;settles flat+string+played+hard;", 2);
        due("16 of the string", x.damps(0, 0, 7), 127);
        due("16 of another string", x.damps(0, 0, 1), 10 * x.string(1, 0) + 1);
        due("16 no player", x.damps(1, 0, 0), -1);
        due("16 no piece", x.damps(0, 1, 0), -1);
        due("16 no string 8", x.damps(0, 0, 8), -1);
        due("16 no string -1", x.damps(0, 0, -1), -1);
        due("17 as things are", x.settles(0, 0), 6);
        tell(0, "damps 1001;", 1);
        due("16 1000 at most", x.damps(0, 0, 0), 1000);
        tell(0, "damps 0-1;", 1);
        due("16 0 at least", x.damps(0, 0, 0), 0);
        due("17 no law: 3", x.settles(0, 0), 3);
        x.set(7, 0, 9);
        due("17 and fire", x.settles(0, 0), 12);
        tell(0, "settles 100 when minute=0;", 1);
        due("17 99 at most", x.settles(0, 0), 99);
        due("17 no player", x.settles(1, 0), -1);
        due("17 no piece", x.settles(0, -1), -1);
        due("16 asking draws nothing, plays nothing", x.of(0, 3), 1);
    }

    private static void p18Book() {
        x = new WeepingPiano();
        due("18 none such", x.book(0, 0), -2);
        for (int i = 0; i < 152; i++) x.act(2, i % 99 + 1);
        due("18 150 lines", x.look(9), 150);
        due("18 the last", x.book(149, 1), 4);
        due("18 no 151st", x.book(150, 1), -2);
        due("18 another what", x.book(0, 4), -2);
        due("18 another what", x.book(0, -1), -2);
        due("18 none such", x.book(-1, 0), -2);
        x.undo();
        x.undo();
        due("18 still 150", x.look(9), 150);
        x.undo();
        due("18 one less", x.look(9), 149);
        x.set(4, 3, 2);
        x.act(0, 3);
        due("18 another one there", x.book(149, 1), 2);
    }

    private static void p19Goes() {
        fresh(new int[] {2, 5, 0, 1, 0, 0}, new int[] {3, 0});
        tell(0, "damps 500 when string<3;damps 499;", 2);
        tell(1, "on 0 player 0 piece 0 1 0;on 1 player 0 piece 1;", 2);
        tell(2, "on 0 fire 2;on 0 dry 4;on 1 empty;", 3);
        x.set(4, 0, 48);
        // Piece 0: 16. Settles 5: 11 6 1: 3 minutes, 3 salt. Piece 1: 4, not above 4. Piece 0: 20. Night: 10, 2 salt.
        due("19 water", x.goes(1, 0), 10);
        due("19 salt", x.goes(1, 1), 5);
        due("19 flat: 48 and 2 at most, two times 5", x.goes(1, 2), 60);
        due("19 waiting", x.goes(1, 3), 3);
        // Second day: salt 0, piece 1: 13; night: 6, 1 salt.
        due("19 water, two days", x.goes(2, 0), 6);
        due("19 salt, two days", x.goes(2, 1), 1);
        due("19 twenty days", x.goes(20, 0), 0);
        due("19 nothing stays", x.look(2) + x.look(3) + x.look(5) + x.look(7) + x.look(8) + x.look(9) + x.look(10), 0);
        due("19 no piece was played", x.of(0, 3) + x.of(0, 4) + x.who(0, 2), 0);
        due("19 dry stays", x.look(4), 10);
        due("19 n 0", x.goes(0, 0), -1);
        due("19 n 21", x.goes(21, 0), -1);
        due("19 what 4", x.goes(1, 4), -1);
        due("19 what -1", x.goes(1, -1), -1);
        x.days(1);
        due("19 minutes of waiting then, with those there were", x.goes(1, 3), x.look(7));
        due("19 undo stays as it was", x.look(15), 1);
    }

    private static void p20Lasts() {
        fresh(new int[] {2, 9, 0, 3, 0, 0, 1, 4, 0, 1, 0, 0, 1, 0, 0, 1, 0, 0}, new int[] {0, 0, 9, 0});
        // Without a law piece 0 weeps 18, piece 2 weeps 4; settles 3: shortest with piece 0 last.
        due("20 one alone", x.lasts(0, 1, 0), 2);
        due("20 which", x.lasts(0, 1, 10), 0);
        due("20 two", x.lasts(0, 3, 0), 5);
        due("20 first", x.lasts(0, 3, 10), 1);
        due("20 second", x.lasts(0, 3, 11), 0);
        due("20 no third", x.lasts(0, 3, 12), -1);
        due("20 of several the first", x.lasts(0, 6, 10), 1);
        due("20 five", x.lasts(0, 31, 0), 8);
        due("20 their order", x.lasts(0, 31, 10) * 10000 + x.lasts(0, 31, 11) * 1000 + x.lasts(0, 31, 12) * 100
                + x.lasts(0, 31, 13) * 10 + x.lasts(0, 31, 14), 12340);
        due("20 six", x.lasts(0, 63, 0), -1);
        due("20 none", x.lasts(0, 0, 0), -1);
        due("20 no piece 6", x.lasts(0, 64, 0), -1);
        due("20 below 0", x.lasts(0, Integer.MIN_VALUE, 0), -1);
        due("20 no player 2", x.lasts(2, 1, 0), -1);
        due("20 no player -1", x.lasts(-1, 1, 0), -1);
        due("20 what 1", x.lasts(0, 1, 1), -1);
        due("20 what 9", x.lasts(0, 1, 9), -1);
        x.set(5, 0, 31);
        // Water 31 and whatever first: 1 first: 31 to 10 by 3 is 7 minutes.
        due("20 from the water there is", x.lasts(0, 3, 0), 12);
        tell(0, "settles 0;", 1);
        due("20 60 minutes at most", x.lasts(0, 3, 0), 65);
        due("20 the first of like ones", x.lasts(0, 3, 10), 0);
        due("20 nothing stays", x.look(2), 31);
        fresh(new int[] {1, 9, 0, 1, 8, 0}, new int[] {0, 0});
        tell(0, "weeps sad*5;settles 30 when salt=0;settles 1;", 3);
        // 0 first: 45, 15, then by 1: 6 minutes. 1 first: 40, 10: 1 minute; salt is 0 again when it is tried.
        due("20 each order from how things are", x.lasts(0, 3, 0), 3);
        due("20 1 first", x.lasts(0, 3, 10), 1);
        tell(0, "weeps sad*5;settles 99 when played=1;settles 0;", 3);
        due("20 played one more behind it, in each order", x.lasts(0, 3, 0), 3);
        due("20 the first order", x.lasts(0, 3, 10), 0);
        // Strings change nothing of it.
        tell(0, "weeps 1+flat+string;damps 1000;", 2);
        due("20 no waiting", x.lasts(0, 3, 0), 2);
    }

    private static void p21Chords() {
        x = new WeepingPiano();
        due("21 moved by 0", x.chords(145, 145, 0), 0);
        due("21 moved by 11", x.chords(1, 2048, 0), 11);
        due("21 moved over the end", x.chords(2048, 1, 0), 1);
        due("21 the least", x.chords(273, 546, 0), 1);
        due("21 never", x.chords(3, 5, 0), -1);
        due("21 turned", x.chords(145, 137, 1), 7);
        due("21 turned, 0 stays", x.chords(3, 2049, 1), 0);
        due("21 never turned", x.chords(3, 5, 1), -1);
        due("21 held by thirds", x.chords(273, 0, 2), 3);
        due("21 held s", x.chords(273, 0, 3), 4);
        due("21 one tone holds none", x.chords(4, 0, 2), 0);
        due("21 the least s", x.chords(4, 0, 3), 1);
        due("21 all tones", x.chords(4095, 0, 2), 12);
        due("21 span of one", x.chords(64, 0, 4), 0);
        due("21 span over the end", x.chords(2049, 0, 4), 1);
        due("21 span of all", x.chords(4095, 0, 4), 11);
        due("21 a 4096", x.chords(4096, 1, 0), -1);
        due("21 a -1", x.chords(-1, 1, 2), -1);
        due("21 b 4096", x.chords(1, 4096, 1), -1);
        due("21 b 0", x.chords(1, 0, 0), -1);
        due("21 what 5", x.chords(1, 1, 5), -1);
        due("21 what -1", x.chords(1, 1, -1), -1);
    }

    private static void tuneOf(int... tones) {
        x.tone(-1);
        for (int t : tones) x.tone(t);
    }

    private static void p22to24Tune() {
        x = new WeepingPiano();
        due("22 no tone 61", x.tone(61), -1);
        due("22 no tone -2", x.tone(-2), -1);
        for (int i = 1; i <= 16; i++) due("22 tone", x.tone(i == 1 ? 60 : 0), i);
        due("22 the 17th", x.tone(0), -1);
        due("22 none is then", x.tone(-1), 0);
        due("22 one", x.tone(5), 1);
        due("23 one alone: twice", x.tune(0), 0);
        due("23 one alone: where", x.tune(1), -1);
        due("23 one alone: rises", x.tune(2), 1);
        due("23 one alone: cost", x.tune(3), 0);
        due("23 one alone: finger", x.tune(10), 1);
        due("23 no second finger", x.tune(11), -1);
        due("23 what 4", x.tune(4), -1);
        due("23 what 9", x.tune(9), -1);
        due("23 what -1", x.tune(-1), -1);
        tuneOf(5, 5, 5, 5);
        due("23 rows may meet", x.tune(0), 3);
        due("23 where", x.tune(1), 0);
        due("23 no rise", x.tune(2), 1);
        due("23 one finger for like tones", x.tune(3), 0);
        due("23 all the first", x.tune(13), 1);
        tuneOf(9, 1, 3, 6, 20, 22, 25);
        due("23 moved", x.tune(0), 3);
        due("23 where first", x.tune(1), 1);
        due("23 rises", x.tune(2), 6);
        tuneOf(5, 7, 9);
        due("23 two that meet", x.tune(0), 2);
        due("23 where they are first", x.tune(1), 0);
        tuneOf(1, 2, 4, 8);
        due("23 nothing twice", x.tune(0), 0);
        // Steps 1: |1-2|; the same finger costs 1 and 9.
        tuneOf(10, 11);
        due("23 cost 1", x.tune(3), 1);
        due("23 finger 1", x.tune(10), 1);
        due("23 finger 2", x.tune(11), 2);
        tuneOf(11, 10);
        due("23 down: cost 1", x.tune(3), 1);
        due("23 down: finger 2", x.tune(10), 2);
        due("23 down: finger 1", x.tune(11), 1);
        tuneOf(0, 4, 7, 16);
        due("24 places", x.canon(1, 0, 0), 3);
        due("24 places", x.canon(3, 0, 0), 1);
        due("24 none", x.canon(4, 0, 0), 0);
        due("24 none", x.canon(15, 12, 0), 0);
        due("24 4, 3 and 9", x.canon(1, 0, 1), 3);
        due("24 higher by 4: 0, 1 below, 5", x.canon(1, 4, 1), 1);
        due("24 higher by 11: 7 below, 8 below, 2 below", x.canon(1, 11, 1), 2);
        due("24 d 0", x.canon(0, 0, 0), -1);
        due("24 d 16", x.canon(16, 0, 0), -1);
        due("24 h -1", x.canon(1, -1, 0), -1);
        due("24 h 13", x.canon(1, 13, 0), -1);
        due("24 what 2", x.canon(1, 0, 2), -1);
        due("24 what -1", x.canon(1, 0, -1), -1);
        x.act(2, 1);
        x.tone(3);
        x.tone(-1);
        due("22 forgets nothing", x.look(15), 1);
    }

    private static void p25Bar() {
        x = new WeepingPiano();
        due("25 all lengths", x.bar(8, 255, 0), 128);
        due("25 24 of ones and twos", x.bar(24, 3, 0), 75025);
        due("25 24 of all", x.bar(24, 255, 0), 8111200);
        due("25 no filling", x.bar(3, 2, 0), 0);
        due("25 the longest", x.bar(8, 128, 0), 1);
        due("25 no two alike: 3, 12, 21", x.bar(3, 255, 1), 3);
        due("25 one alone", x.bar(1, 255, 1), 1);
        due("25 ones alone", x.bar(2, 1, 1), 0);
        due("25 n 0", x.bar(0, 1, 0), -1);
        due("25 n 25", x.bar(25, 1, 0), -1);
        due("25 no lengths", x.bar(1, 0, 0), -1);
        due("25 lengths 256", x.bar(1, 256, 0), -1);
        due("25 lengths below 0", x.bar(1, -1, 0), -1);
        due("25 what 2", x.bar(1, 1, 2), -1);
        due("25 what -1", x.bar(1, 1, -1), -1);
    }

    private static void p26to27Beats() {
        x = new WeepingPiano();
        due("26 v 0", x.period(0, 0), false);
        due("26 v 100", x.period(0, 100), false);
        due("26 string 8", x.period(8, 1), false);
        due("26 string -1", x.period(-1, 1), false);
        int[] periods = {97, 89, 83, 79, 73, 71, 67, 64};
        x.act(2, 1);
        for (int s = 0; s < 8; s++) due("26 period", x.period(s, periods[s]), true);
        due("26 forgets nothing", x.look(15), 1);
        due("26 it is so", x.string(7, 1), 64);
        due("27 two", x.beats(0, 1), 8633);
        due("27 a string and itself", x.beats(3, 3), 79);
        long all = 1;
        for (int p : periods) all = all * p;
        due("27 all", x.beats(-1, 99), all % 1000000007L);
        x.period(0, 48);
        due("27 with a common part", x.beats(0, 7), 192);
        due("27 s 8", x.beats(8, 0), -1);
        due("27 t 8", x.beats(0, 8), -1);
        due("27 t -1", x.beats(0, -1), -1);
        due("27 s -2", x.beats(-2, 0), -1);
    }

    private static void p28to29Pedal() {
        x = new WeepingPiano();
        int[][] wrong = {{60, 1, 0}, {-2, 1, 0}, {0, 0, 0}, {0, 31, 0}, {0, 1, -1}, {0, 1, 61}};
        for (int[] w : wrong) due("28 can't be", x.pedal(w[0], w[1], w[2]), -1);
        due("28 the last", x.pedal(59, 30, 60), 1);
        due("29 one", x.mud(0), 1);
        due("29 its minute", x.mud(1), 59);
        due("29 no couple", x.mud(2), 0);
        for (int i = 2; i <= 9; i++) due("28 tone", x.pedal(88 - 29, 30, 60 - i), i);
        due("28 the tenth", x.pedal(0, 1, 0), -1);
        due("29 nine", x.mud(0), 9);
        due("28 none is then", x.pedal(-1, 99, 99), 0);
        due("29 none", x.mud(0), 0);
        due("29 none: minute", x.mud(1), 0);
        x.pedal(3, 2, 10);
        x.pedal(5, 2, 11);
        due("29 one behind the other", x.mud(0), 1);
        due("29 first minute", x.mud(1), 3);
        due("29 no clash", x.mud(2), 0);
        x.pedal(4, 2, 0);
        due("29 two", x.mud(0), 2);
        due("29 at minute 4", x.mud(1), 4);
        due("29 10 and 0 are apart by 10, 11 and 0 by 11", x.mud(2), 2);
        x.pedal(4, 1, 24);
        due("29 24 and 10 are apart by 14, 2 modulo 12; 24 and 0 are alike", x.mud(2), 3);
        due("29 what 3", x.mud(3), -1);
        due("29 what -1", x.mud(-1), -1);
        x.act(2, 1);
        x.pedal(-1, 0, 0);
        due("28 forgets nothing", x.look(15), 1);
    }

    private static void p30Whose() {
        fresh(new int[] {1, 1, 0, 1, 2, 0, 1, 3, 0, 1, 0, 0}, new int[] {0, 0});
        for (int p = 0; p < 4; p++) x.play(0, p);
        // Wept 1, 2, 3, 0.
        due("30 of 3: {0 1} {2}, each with 3 or not", x.whose(3, 0), 4);
        due("30 the least", x.whose(3, 1), 3);
        due("30 none in all", x.whose(3, 2), 0);
        due("30 of 5", x.whose(5, 0), 2);
        due("30 the least", x.whose(5, 1), 6);
        due("30 in all", x.whose(5, 2), 6);
        due("30 of 7", x.whose(7, 0), 0);
        due("30 the least of none", x.whose(7, 1), -1);
        due("30 in all of none", x.whose(7, 2), 0);
        due("30 v 0", x.whose(0, 0), -1);
        due("30 v 1000", x.whose(1000, 0), -1);
        due("30 v 999", x.whose(999, 0), 0);
        due("30 what 3", x.whose(1, 3), -1);
        due("30 what -1", x.whose(1, -1), -1);
    }

    private static void p31Have() {
        fresh(new int[] {1, 0, 2, 1, 0, 8, 1, 0, 5, 1, 0, 9}, new int[] {8, 0, 5, 0});
        due("31 two of one each", x.have(1, 0), 2);
        due("31 piece 0 to player 0 leaves 2 to player 1", x.have(1, 10), 0);
        due("31 piece 1 to none", x.have(1, 11), -1);
        due("31 piece 2", x.have(1, 12), 1);
        due("31 piece 3 is too hard", x.have(1, 13), -1);
        due("31 three of two each", x.have(2, 0), 3);
        due("31 piece 0", x.have(2, 10), 0);
        due("31 piece 1", x.have(2, 11), 0);
        due("31 piece 2", x.have(2, 12), 1);
        due("31 twelve each", x.have(12, 12), 0);
        due("31 no piece 4", x.have(1, 14), -1);
        due("31 what 1", x.have(1, 1), -1);
        due("31 what 9", x.have(1, 9), -1);
        due("31 what -1", x.have(1, -1), -1);
        due("31 n 0", x.have(0, 0), -1);
        due("31 n 13", x.have(13, 0), -1);
        x.set(1, 0, 0);
        x.set(1, 2, 0);
        x.set(2, 1, 0);
        x.set(1, 3, 8);
        // Pieces 0, 2 for both, 1 and 3 for player 0 alone; one each: 0 to 0, then 2 to 1.
        due("31 the first way", x.have(1, 12), 1);
        fresh(new int[] {1, 0, 5}, new int[] {});
        due("31 no player", x.have(1, 0), 0);
        due("31 none has it", x.have(1, 10), -1);
    }

    private static void p32Alike() {
        x = new WeepingPiano();
        for (int i = 0; i < 12; i++) x.piece(1, 0, 0);
        due("32 each alone", x.alike(-1), 12);
        due("32 itself", x.alike(11), 2048);
        x.act(2, 1);
        tell(3, "piece 11 like 10;piece 10 like 9;piece 9 like 8;piece 8 like 7;piece 7 like 6;piece 6 like 5;piece 5 like 4;"
                + "piece 4 like 3;piece 3 like 2;piece 2 like 1;piece 1 like 0;", 11);
        due("32 likeness forgets nothing", x.look(15), 1);
        due("32 one chain", x.alike(-1), 1);
        due("32 from its end", x.alike(0), 4095);
        due("32 from its other end", x.alike(11), 4095);
        tell(3, "piece 0 like 5;piece 5 like 7;piece 1 like 2;", 3);
        due("32 groups", x.alike(-1), 9);
        due("32 of 7", x.alike(7), 1 + 32 + 128);
        due("32 of 2", x.alike(2), 6);
        due("32 none such", x.alike(12), -1);
        due("32 none such", x.alike(-2), -1);
    }

    private static void p33Pages() {
        x = new WeepingPiano();
        due("33 one alone", x.pages(10, 2, 3, 0), 6);
        due("33 none", x.pages(10, 2, 3, 1), 3);
        due("33 both turn alike", x.pages(60, 9, 9, 0), 0);
        due("33 none of 60", x.pages(60, 9, 9, 1), 54);
        due("33 one turns all", x.pages(60, 1, 9, 0), 54);
        due("33 first page", x.pages(1, 1, 2, 0), 1);
        int[][] wrong = {{0, 1, 1, 0}, {61, 1, 1, 0}, {1, 0, 1, 0}, {1, 10, 1, 0}, {1, 1, 0, 0}, {1, 1, 10, 0}, {1, 1, 1, 2}, {1, 1, 1, -1}};
        for (int[] w : wrong) due("33 can't be", x.pages(w[0], w[1], w[2], w[3]), -1);
    }

    private static void p34Game() {
        x = new WeepingPiano();
        due("34 nothing to take", x.game(0), -1);
        due("34 nothing to take", x.game(1), -1);
        x.set(4, 5, 3);
        due("34 three lose", x.game(0), -1);
        x.set(4, 5, 4);
        due("34 the string", x.game(0), 5);
        due("34 the least take: 1, not 4", x.game(1), 1);
        x.set(4, 5, 2);
        due("34 two at once", x.game(1), 2);
        x.set(4, 2, 1);
        due("34 2 and 1: one of the two", x.game(0), 5);
        due("34 one", x.game(1), 1);
        x.set(4, 2, 50);
        due("34 50 and 2 are alike", x.game(0), -1);
        x.set(4, 7, 1);
        due("34 one more string", x.game(0), 7);
        x.set(4, 2, 4);
        x.set(4, 5, 1);
        due("34 of several the least string", x.game(0), 2);
        due("34 the least of 1 and 4", x.game(1), 1);
        due("34 what 2", x.game(2), -1);
        due("34 what -1", x.game(-1), -1);
    }

    private static void p35Undo() {
        fresh(new int[] {2, 5, 0, 1, 0, 0}, new int[] {3, 0});
        due("35 nothing", x.undo(), false);
        x.state(5);
        x.set(4, 0, 7);
        x.set(5, 0, 100);
        x.play(0, 0);
        due("35 played", x.of(0, 3), 1);
        x.act(0, 0);
        x.act(2, 50);
        x.days(1);
        x.act(1, 0);
        due("35 five", x.look(15), 5);
        for (int i = 0; i < 5; i++) due("35 undo", x.undo(), true);
        due("35 no more", x.undo(), false);
        due("35 state", x.look(10), 5);
        due("35 water", x.look(2), 100);
        due("35 salt", x.look(3), 0);
        due("35 flat", x.string(0, 0), 7);
        due("35 played", x.of(0, 3), 0);
        due("35 wept", x.of(0, 4), 0);
        due("35 tears", x.who(0, 2), 0);
        due("35 minutes", x.look(6), 0);
        due("35 book", x.look(9), 0);
        due("35 day", x.look(8), 0);
        x.days(8);
        due("35 six are kept", x.look(15), 6);
        for (int i = 0; i < 6; i++) due("35 undo", x.undo(), true);
        due("35 the seventh", x.undo(), false);
        due("35 two days stay", x.look(8), 2);
        x.days(1);
        tell(0, "weeps 1;", 1);
        tell(3, "piece 0 like 1;", 1);
        due("35 law and likeness forget nothing", x.look(15), 1);
        tell(1, "piece;", -1);
        due("35 nor does a faulty text", x.look(15), 1);
        due("35 a day goes back", x.undo(), true);
        due("35 the law stays", x.look(11), 1);
        x.days(1);
        tell(1, "", 0);
        due("35 a programme forgets", x.look(15), 0);
        x.days(1);
        tell(2, "", 0);
        due("35 care forgets", x.look(15), 0);
        x.days(1);
        x.image(true);
        due("35 the taking does not", x.look(15), 1);
        x.image(false);
        due("35 going back does", x.look(15), 0);
        due("35 what can't be is not kept", x.act(1, 0) == (x.look(15) == 1), true);
    }

    private static void p36Image() {
        fresh(new int[] {2, 5, 0, 1, 0, 0}, new int[] {3, 0});
        due("36 none", x.image(false), false);
        tell(0, "weeps 7 when 1=1;damps 1000;", 2);
        tell(1, "on 0 player 0 piece 0;", 1);
        tell(2, "on 0 fire 3;", 1);
        tell(3, "piece 0 like 1;", 1);
        x.tone(4);
        x.tone(9);
        x.period(1, 6);
        x.pedal(7, 2, 5);
        x.state(9);
        x.play(0, 1);
        due("36 taken", x.image(true), true);
        int water = x.look(2);
        int draws = x.look(10);
        for (int round = 0; round < 2; round++) {
            x.days(3);
            x.piece(9, 9, 9);
            x.player(1, 1);
            x.set(0, 0, 1);
            x.set(2, 0, 1);
            x.set(6, 0, 1);
            for (int k = 0; k < 4; k++) x.text(k);
            x.tone(-1);
            x.tone(50);
            x.tone(40);
            x.period(1, 2);
            x.pedal(-1, 0, 0);
            x.pedal(30, 9, 9);
            x.act(2, 99);
            Check.feed(x, "weeps;");
            x.text(0);
            Check.feed(x, "weeps 1;");
            due("36 back", x.image(false), true);
            due("36 the tape stays as it is", x.end(8), true);
            due("36 fault stays", x.fault(1), 5);
            x.end(0);
            int[] want = {2, 1, water, 0, 10, 0, 1, 0, 0, 1, draws, 2, 1, 1, 1, 0};
            for (int i = 0; i < 16; i++) due("36 look(" + i + ")", x.look(i), want[i]);
            due("36 sad", x.of(0, 1), 5);
            due("36 art", x.who(0, 0), 3);
            due("36 played", x.of(1, 3), 1);
            due("36 tears", x.who(0, 2), 7);
            due("36 flat", x.string(7, 0), 1);
            due("36 law", x.of(0, 10), 7);
            due("36 likeness", x.of(0, 5), 2);
            due("36 tune", x.tune(2), 2);
            due("36 period", x.string(1, 1), 6);
            due("36 pedal", x.mud(1), 7);
            due("36 book", x.book(0, 1), 0);
            due("36 care", x.goes(1, 0), (water + 14) / 2);
        }
        x = new WeepingPiano();
        x.set(4, 6, 2);
        x.act(2, 8);
        x.image(true);
        x.undo();
        x.act(0, 6);
        due("36 another line", x.book(0, 1), 2);
        x.image(false);
        due("36 the line of then", x.book(0, 1), 4);
        due("36 its which", x.book(0, 2), -1);
    }

    private static void p37Look() {
        x = new WeepingPiano();
        due("37 what 16", x.look(16), -1);
        due("37 what -1", x.look(-1), -1);
        due("37 what least", x.look(Integer.MIN_VALUE), -1);
        x.state(-5);
        due("37 state as it is", x.look(10), -5);
        x.act(2, 1);
        due("37 book", x.look(9), 1);
        due("37 undo", x.look(15), 1);
    }

    public static void main(String[] args) {
        p1NewObject();
        p2State();
        p3Piece();
        p4Player();
        p5Set();
        p6Play();
        p7Act();
        p8Days();
        p8Waiting();
        p9Feed();
        p10End();
        p11Text();
        p11Law();
        p12Fault();
        p13Of();
        p14to17();
        p18Book();
        p19Goes();
        p20Lasts();
        p21Chords();
        p22to24Tune();
        p25Bar();
        p26to27Beats();
        p28to29Pedal();
        p30Whose();
        p31Have();
        p32Alike();
        p33Pages();
        p34Game();
        p35Undo();
        p36Image();
        p37Look();
        Check.close();
    }
}
