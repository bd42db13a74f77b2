import java.util.ArrayList;
import java.util.List;
import java.util.Random;

/** The document's "Terms" 2: the texts, their tokens and faults, and what THE LAW tells. */
final class DocTexts extends Edge {
    private static final String[] LAW = {
        "LAW = {(weeps | damps | settles) E [when B] ;}",
        "B = A {or A}",
        "A = C {and C}",
        "C = E (< | = | >) E | not C | ( B )",
        "E = T {(+ | -) T}",
        "T = U {* U | / NUMBER}",
        "U = NUMBER | sad | hard | art | wish | water | salt | flat | string | fire | minute | played | day"};
    private static final String[] TOKENS = ("weeps damps settles when or and not sad hard art wish water salt flat string fire minute played day on "
        + "player piece tune empty child dry like NUMBER NUMBER NUMBER NUMBER ; ; + - * / ( ) < = > ?").split(" ");

    /** All PIECES of one minute and all PLAYERS. */
    private static WeepingPiano full() {
        return piano(12, 6);
    }

    /** What a law tells for weeps of the first PIECE by the first PLAYER. */
    private static int weeps(WeepingPiano x, String e) {
        told(x, 0, "weeps " + e + ";");
        return x.of(0, 10);
    }

    /** Whether a condition is so. */
    private static boolean so(WeepingPiano x, String b) {
        told(x, 0, "weeps 1 when " + b + ";weeps 0;");
        return x.of(0, 10) == 1;
    }

    // The rules as they are printed

    /** Rows of tokens by the rules and rows that differ from such in some places: how far they may stand. */
    private static void standsAsPrinted(int k, Random random, int rows, String... printed) {
        Grammar grammar = new Grammar(printed);
        WeepingPiano x = full();
        int right = 0;
        for (int i = 0; i < rows; i++) {
            if (i % 15 == 0) x = full();
            List<String> tokens = grammar.text(random);
            for (int n = i % 3; n > 0; n--) change(tokens, random);
            if (tooMuch(tokens)) continue;
            right += compare(x, k, tokens, grammar.stands(tokens), random) ? 1 : 0;
        }
        due("right ones are among them", right > rows / 6, true);
        due("wrong ones, too", right < rows, true);
    }

    private static void change(List<String> tokens, Random random) {
        String token = TOKENS[random.nextInt(TOKENS.length)];
        int at = random.nextInt(tokens.size() + 1);
        int how = random.nextInt(3);
        if (how == 0 || at == tokens.size()) tokens.add(at, token);
        else if (how == 1) tokens.set(at, token);
        else tokens.remove(at);
    }

    /** Left to the tests of FAULT 3. */
    private static boolean tooMuch(List<String> tokens) {
        int lines = 0;
        int open = 0;
        int numbers = 0;
        for (String t : tokens) {
            lines += t.equals(";") ? 1 : 0;
            open += t.equals("(") || t.equals("not") ? 1 : 0;
            numbers = t.equals("NUMBER") ? numbers + 1 : 0;
            if (numbers > 6) return true;
        }
        return lines > 15 || open > 8 || tokens.size() > 60;
    }

    /** NUMBERS are 1 to 5 in turn: within all bounds, and no two side by side alike. */
    private static boolean compare(WeepingPiano x, int k, List<String> tokens, int stands, Random random) {
        StringBuilder text = new StringBuilder();
        int place = NONE;
        int lines = 0;
        for (int i = 0; i < tokens.size(); i++) {
            text.append(" \n ".repeat(random.nextInt(2)));
            String t = tokens.get(i).equals("NUMBER") ? "" + (1 + i % 5) : tokens.get(i);
            boolean together = text.length() > 0 && wordy(text.charAt(text.length() - 1)) && wordy(t.charAt(0));
            text.append(together ? " " : "");
            if (i == stands) place = text.length();
            lines += t.equals(";") ? 1 : 0;
            text.append(t);
        }
        text.append(" ".repeat(random.nextInt(2)));
        boolean right = stands > tokens.size();
        if (stands == tokens.size()) place = text.length();
        String told = text.toString();
        due("text(" + k + ") of '" + told + "'", Check.tell(x, k, told), right ? lines : NONE);
        due("fault of '" + told + "'", x.fault(0), right ? 0 : 1);
        due("place in '" + told + "'", x.fault(1), place);
        return right;
    }

    private static boolean wordy(char c) {
        return Character.isLetterOrDigit(c);
    }

    @Says({"2. TEXTS (empty at first).", "0 THE LAW = {(weeps | damps | settles) E [when B] ;}.", "B = A {or A}.", "A = C {and C}.",
        "C = E (< | = | >) E | not C | ( B ).", "E = T {(+ | -) T}.", "T = U {* U | / NUMBER}.",
        "U = NUMBER | sad | hard | art | wish | water | salt | flat | string | fire | minute | played | day."})
    static void p11TheLawAsItIsPrinted() {
        for (int k = 0; k < 4; k++) due("lines at first", new WeepingPiano().look(11 + k), 0);
        standsAsPrinted(0, new Random(1), 3000, LAW);
        WeepingPiano x = full();
        String[] right = {"weeps 1;", "damps sad when 1<2;", "settles 1+2-3*4/5;", "weeps 1 when not not 1=1;", "weeps 1 when (1=1);",
            "weeps 1 when 1>2 or 3>4 and 5>6 or not(7>8 or 9>10);", "weeps 1;weeps 2;damps 3;settles 4;", ""};
        for (String s : right) told(x, 0, s);
        String[] wrong = {"weeps;", "weeps 1", "weeps 1 when;", "weeps (1);", "weeps -1;", "weeps 1/sad;", "weeps 1 when 1;", "weeps 1 when 1<2<3;",
            "weeps 1 when not;", "weeps 1 when ();", "weeps 1 when (1=1;", "weeps 1 when 1=1);", "weeps 1 or 2;", "when 1=1;", "weeps 1;;", ";"};
        for (String s : wrong) due("not a law: " + s, Check.tell(x, 0, s) == NONE && x.fault(0) == 1, true);
    }

    @Says("1 PROGRAMME = {on DAY player PLAYER piece PIECE {PIECE} ;} (DAY 0 .. 999; six PIECES at most.)")
    static void p11TheProgrammeAsItIsPrinted() {
        standsAsPrinted(1, new Random(2), 1500, "PROGRAMME = {on DAY player PLAYER piece PIECE {PIECE} ;}");
        WeepingPiano x = full();
        told(x, 1, "on 0 player 5 piece 11;on 999 player 0 piece 0 1 2 3 4 5;");
        due("six pieces and one", x.days(1), 1);
        faulty(x, 1, "on 1000 player 0 piece 0;", 2, 3);
        faulty(x, 1, "on 0 player 0 piece 0 1 2 3 4 5 6;", 3, 32);
    }

    @Says("2 CARE = {on DAY (tune STRING | empty | child N | fire N | dry N) ;} (child 1 .. 99, fire 0 .. 9, dry 0 .. 99.)")
    static void p11CareAsItIsPrinted() {
        standsAsPrinted(2, new Random(3), 1500, "CARE = {on DAY (tune STRING | empty | child N | fire N | dry N) ;}");
        WeepingPiano x = full();
        within("child", v -> Check.tell(x, 2, "on 0 child " + v + ";") == 1, 1, 99);
        within("fire", v -> Check.tell(x, 2, "on 0 fire " + v + ";") == 1, 0, 9);
        within("dry", v -> Check.tell(x, 2, "on 0 dry " + v + ";") == 1, 0, 99);
        within("string", v -> Check.tell(x, 2, "on 0 tune " + v + ";") == 1, 0, 7);
        within("day", v -> Check.tell(x, 2, "on " + v + " empty;") == 1, 0, 999);
    }

    @Says("3 LIKENESS = {piece PIECE like PIECE ;} (either way; unlike.)")
    static void p11LikenessAsItIsPrinted() {
        standsAsPrinted(3, new Random(4), 1500, "LIKENESS = {piece PIECE like PIECE ;}");
        WeepingPiano x = full();
        told(x, 3, "piece 2 like 9;piece 9 like 4;");
        due("of the first", x.of(2, 5), 1 << 9);
        due("either way", x.of(9, 5), 1 << 2 | 1 << 4);
        due("not through another", x.of(4, 5), 1 << 9);
        faulty(x, 3, "piece 2 like 2;", 2, 13);
    }

    @Says("16 lines of each at most.")
    static void p11SixteenLinesOfEach() {
        String[] lines = {"weeps 1;", "on 0 player 0 piece 0;", "on 0 empty;", "piece 0 like 1;"};
        for (int k = 0; k < 4; k++) {
            WeepingPiano x = full();
            told(x, k, lines[k].repeat(16));
            due("lines", x.look(11 + k), 16);
            faulty(x, k, lines[k].repeat(17), 3, lines[k].length() * 16);
            due("as they were", x.look(11 + k), 16);
        }
    }

    // TOKENS

    @Says("TOKENS: letters as many as stand together are KEYWORDS (those told here for that text) or none;")
    static void p12LettersAreKeywordsOrNone() {
        WeepingPiano x = full();
        faulty(x, 0, "weepssad;", 1, 0);
        faulty(x, 0, "weeps sadsad;", 1, 6);
        for (char c = 'a'; c <= 'z'; c++) faulty(x, 0, "weeps sad" + c + ";", 1, 6);
        faulty(x, 0, "weeps sa d;", 1, 6);
        faulty(x, 0, "weeps tune;", 1, 6);
        faulty(x, 2, "on 0 weeps;", 1, 5);
        faulty(x, 3, "on 0 empty;", 1, 0);
        told(x, 0, "weeps sad*hard+art-wish;");
    }

    @Says("digits as many as stand together NUMBERS of 1 to 4 digits or none; ; + - * / ( ) < = > .")
    static void p12DigitsAndSigns() {
        WeepingPiano x = full();
        due("four digits", weeps(x, "9999-9901"), 98);
        due("noughts ahead", weeps(x, "0042"), 42);
        faulty(x, 0, "weeps 10000;", 1, 6);
        faulty(x, 0, "weeps 00042;", 1, 6);
        faulty(x, 0, "weeps 4 2;", 1, 8);
        for (String sign : ";+-*/()<=>".split("")) due(sign + " is none that is unknown", Check.tell(x, 0, "weeps 1" + sign), sign.equals(";") ? 1 : NONE);
        for (String sign : "!,.:?[]{}&|%^~_#'\"$@\\".split("")) faulty(x, 0, "weeps 1" + sign + "1;", 1, 7);
    }

    @Says("Blanks (32, 10) between.")
    static void p12BlanksBetween() {
        WeepingPiano x = full();
        told(x, 0, "weeps 1;");
        told(x, 0, " \n weeps\n1 \n;  ");
        told(x, 0, "weeps1when(1<2)and not(3>4);");
        for (char c : new char[] {9, 13, 0, 11, 12, 160}) faulty(x, 0, "weeps" + c + "1;", 1, 5);
    }

    @Says("Ints, which wrap; / goes towards 0.")
    static void p13IntsWrapAndAPartGoesTowards0() {
        WeepingPiano x = full();
        due("9999 * 9999 * 9999", so(x, "9999*9999*9999<0"), 9999 * 9999 * 9999 < 0);
        due("2 to the 32nd", so(x, "256*256*256*256=0"), true);
        due("2 to the 31st", so(x, "8192*4*8192*8<0"), true);
        due("1 less than that", so(x, "8192*4*8192*8-1>0"), true);
        due("7 by 2", weeps(x, "7/2"), 3);
        due("a third of it goes towards 0", so(x, "8192*4*8192*8/3*3<0"), true);
        due("9 by 10", weeps(x, "9/10"), 0);
    }

    // FAULTS

    @Says("FAULTS, the first by its place, at one place the least:")
    static void p12TheFirstFaultByItsPlace() {
        WeepingPiano x = full();
        faulty(x, 0, "weeps 1/0;weeps;", 2, 8);
        faulty(x, 0, "weeps;weeps 1/0;", 1, 5);
        faulty(x, 1, "on 1000 player 9 piece 99;", 2, 3);
        faulty(x, 1, "on 100 player 9 piece 99;", 2, 14);
        faulty(x, 0, "weeps 1;".repeat(16) + "weeps;", 3, 128);
        faulty(x, 0, "weeps 1;".repeat(16) + "when;", 1, 128);
        faulty(x, 0, "weeps 1;".repeat(15) + "weeps;weeps 1;", 1, 125);
        faulty(x, 1, "on 0 player 0 piece 0 0 0 0 0 0 12 0;", 2, 32);
    }

    @Says("1 what can't stand there (the end: the text's length).")
    static void p12WhatCannotStandThere() {
        WeepingPiano x = full();
        faulty(x, 0, "weeps", 1, 5);
        faulty(x, 0, "weeps 1 ", 1, 8);
        faulty(x, 0, "weeps 1 when 2", 1, 14);
        faulty(x, 1, "on 0 player 0 piece", 1, 19);
        faulty(x, 1, "on 0 player 0 piece;", 1, 19);
        faulty(x, 2, "on 0 empty 1;", 1, 11);
        faulty(x, 3, "piece 0 like", 1, 12);
        faulty(x, 3, "like 0 piece 1;", 1, 0);
    }

    @Says("2 (at the NUMBER) a part by 0; one beyond its bounds; a PLAYER, a PIECE that there is not; the same PIECE again (of LIKENESS).")
    static void p12WhatANumberMayNotBe() {
        WeepingPiano x = piano(3, 2);
        faulty(x, 0, "weeps 1 when 2/3/0000>4;", 2, 17);
        faulty(x, 2, "on 0 child 0;", 2, 11);
        faulty(x, 2, "on 0 tune 8;", 2, 10);
        faulty(x, 1, "on 0 player 2 piece 0;", 2, 12);
        faulty(x, 1, "on 0 player 1 piece 2 3;", 2, 22);
        faulty(x, 3, "piece 3 like 0;", 2, 6);
        faulty(x, 3, "piece 0 like 3;", 2, 13);
        faulty(x, 3, "piece 0 like 1;piece 1 like 01;", 2, 28);
        told(x, 3, "piece 0 like 1;piece 1 like 0;piece 0 like 1;");
        told(x, 1, "on 0 player 0 piece 1 1;");
    }

    @Says({"3 (at its KEYWORD) the 17th line of a text;", "(at it) the 7th PIECE (that there is); the 9th ( or not that is open."})
    static void p12WhatIsTooMuch() {
        WeepingPiano x = full();
        faulty(x, 2, "on 0 dry 9; ".repeat(16) + " on 0 dry 9;", 3, 193);
        faulty(x, 1, "on 0 player 0 piece 0 0 0 0 0 0 11;", 3, 32);
        faulty(x, 1, "on 0 player 0 piece 0 0 0 0 0 0 12;", 2, 32);
        told(x, 0, "weeps 1 when " + "(".repeat(8) + "1=1" + ")".repeat(8) + ";");
        told(x, 0, "weeps 1 when " + "not(".repeat(4) + "1=1" + ")".repeat(4) + "and not(1=2);");
        faulty(x, 0, "weeps 1 when " + "(".repeat(9) + "1=1" + ")".repeat(9) + ";", 3, 21);
        faulty(x, 0, "weeps 1 when " + "not ".repeat(9) + "1=1;", 3, 45);
        faulty(x, 0, "weeps 1 when " + "not(".repeat(4) + "1=1 and not 1=1" + ")".repeat(4) + ";", 3, 37);
    }

    // What THE LAW tells

    @Says("What THE LAW tells for a word: E of the first line with that word whose B is so, or that has none")
    static void p13TheFirstLineWhoseConditionIsSo() {
        WeepingPiano x = full();
        told(x, 0, "damps 9;weeps 1 when sad>5;weeps 2 when sad>2;settles 8;weeps 3;weeps 4;");
        int[] want = {3, 3, 3, 2, 2, 2, 1, 1, 1, 1};
        for (int sad = 0; sad < 10; sad++) {
            x.set(0, 0, sad);
            due("sad " + sad, x.of(0, 10), want[sad]);
        }
        due("the others'", x.damps(0, 0, 0) * 10 + x.settles(0, 0), 98);
        boolean[] both = {false, true};
        for (boolean a : both) {
            for (boolean b : both) {
                for (boolean c : both) {
                    String p = a ? "1=1" : "1=2";
                    String q = b ? "2>1" : "1>2";
                    String r = c ? "1<2" : "2<1";
                    due("and is ahead of or", so(x, p + " or " + q + " and " + r), a || b && c);
                    due("and, then or", so(x, p + " and " + q + " or " + r), a && b || c);
                    due("or, then or", so(x, p + " or " + q + " or " + r), a || b || c);
                    due("and, then and", so(x, p + " and " + q + " and " + r), a && b && c);
                    due("brackets", so(x, "(" + p + " or " + q + ") and " + r), (a || b) && c);
                    due("not is of one alone", so(x, "not " + p + " and " + q), !a && b);
                    due("not of brackets", so(x, "not(" + p + " or " + q + ")or " + r), !(a || b) || c);
                }
            }
        }
        due("products are ahead of sums", weeps(x, "2+3*4-6/2"), 11);
        due("from the left", weeps(x, "20-5-3"), 12);
        due("parts from the left", weeps(x, "7/2*2"), 6);
        due("a product, then a part", weeps(x, "7*2/2"), 7);
    }

    @Says("(none: weeps: sad and art less wish, damps: water, settles: 3 and fire),")
    static void p17WithoutALine() {
        WeepingPiano x = new WeepingPiano();
        x.piece(1, 6, 0);
        x.player(5, 2);
        x.set(5, 0, 77);
        x.set(7, 0, 4);
        due("weeps", x.of(0, 10), 9);
        due("damps", x.damps(0, 0, 5), 77);
        due("settles", x.settles(0, 0), 7);
        told(x, 0, "weeps 1 when 1=2;damps 2 when 1=2;settles 3 when 1=2;");
        due("weeps, none is so", x.of(0, 10), 9);
        due("damps, none is so", x.damps(0, 0, 5), 77);
        due("settles, none is so", x.settles(0, 0), 7);
    }

    @Says("weeps held to 0 .. 99, damps to 0 .. 1000, settles to 0 .. 99:")
    static void p16WhatIsToldIsHeld() {
        WeepingPiano x = full();
        String[] told = {"0-5", "0", "99", "100", "999", "1000", "1001", "9999"};
        int[] small = {0, 0, 99, 99, 99, 99, 99, 99};
        int[] great = {0, 0, 99, 100, 999, 1000, 1000, 1000};
        for (int i = 0; i < told.length; i++) {
            told(x, 0, "weeps " + told[i] + ";damps " + told[i] + ";settles " + told[i] + ";");
            due("weeps " + told[i], x.of(0, 10), small[i]);
            due("damps " + told[i], x.damps(0, 0, 0), great[i]);
            due("settles " + told[i], x.settles(0, 0), small[i]);
        }
        x = new WeepingPiano();
        x.piece(1, 0, 0);
        x.player(0, 9);
        due("9 less than nothing", x.of(0, 10), 0);
    }

    @Says({"sad, hard, played: the PIECE's; art, wish: the PLAYER's", "water; salt;", "fire;", "day."})
    static void p16WhatTheNamesAre() {
        WeepingPiano x = new WeepingPiano();
        salted(x, 61);
        x.days(3);
        x.piece(1, 0, 0);
        x.piece(1, 3, 4);
        x.player(0, 0);
        x.player(5, 6);
        told(x, 0, "weeps 0;damps 0;");
        x.play(0, 1);
        x.play(0, 1);
        x.set(5, 0, 71);
        x.set(7, 0, 8);
        String[] names = {"sad", "hard", "played", "art", "wish", "water", "salt", "fire", "day", "minute"};
        int[] want = {3, 4, 2, 5, 6, 71, 61, 8, x.look(8), 0};
        for (int i = 0; i < names.length; i++) {
            told(x, 0, "weeps " + names[i] + ";damps " + names[i] + ";settles " + names[i] + ";");
            due("weeps " + names[i], x.of(1, 11), want[i]);
            due("damps " + names[i], x.damps(1, 1, 3), want[i]);
            due("settles " + names[i], x.settles(1, 1), want[i]);
        }
    }

    @Says("(settles: all of these those of what was played last this time);")
    static void p08SettlesKnowsWhatWasPlayedLast() {
        String[] names = {"sad", "hard", "played", "art", "wish"};
        int[][] want = {{60, 85}, {60, 71}, {60, 120}, {43, 43}, {38, 38}};
        for (int i = 0; i < names.length; i++) {
            WeepingPiano x = new WeepingPiano();
            x.piece(1, 3, 4);
            x.piece(1, 5, 6);
            x.player(1, 2);
            x.player(7, 8);
            told(x, 0, "weeps 0;damps 0;settles " + names[i] + ";");
            told(x, 1, "on 0 player 1 piece 0 1 0;");
            x.set(5, 0, 400);
            x.set(6, 0, 99);
            x.days(1);
            due("behind the first, " + names[i], x.book(1, 3), want[i][0]);
            due("behind both, " + names[i], x.look(7), want[i][1]);
        }
    }

    @Says("flat, string: the STRING's (damps; else 0);")
    static void p16FlatAndString() {
        WeepingPiano x = full();
        for (int s = 0; s < 8; s++) x.set(4, s, 40 + s);
        told(x, 0, "weeps 50+flat+string;damps flat*10+string;settles 60+flat+string;");
        for (int s = 0; s < 8; s++) due("damps of string " + s, x.damps(0, 0, s), (40 + s) * 10 + s);
        due("weeps", x.of(0, 10), 50);
        due("settles", x.settles(0, 0), 60);
    }

    @Says("minute: of this PIECE, from 0 (settles: of this waiting, from 0);")
    static void p06TheMinute() {
        WeepingPiano x = new WeepingPiano();
        x.piece(4, 0, 0);
        x.piece(3, 0, 0);
        x.player(0, 0);
        told(x, 0, "weeps minute*minute;damps 1000 when minute=2 and string=1;damps 0;settles minute+1;");
        due("0, 1, 4, 9", x.play(0, 0), 14);
        due("0, 1, 4", x.play(0, 1), 5);
        due("once in each", x.string(1, 0), 2);
        x = new WeepingPiano();
        x.piece(4, 0, 0);
        x.piece(3, 0, 0);
        x.player(0, 0);
        told(x, 0, "weeps 5;damps 0;settles minute+1;");
        told(x, 1, "on 0 player 0 piece 0 1 0;");
        x.days(1);
        line(x, 1, 0, 1, 0, 4);
        due("20 less 1, 2, 3, 4 is 10; 15 and 10 less 1, .. 5 is 10", x.look(7), 9);
        line(x, 3, 0, 1, 1, 5);
    }
}
