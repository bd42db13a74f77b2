import java.util.List;

/** Edges of the tape and of the texts: promises 9 to 12. */
final class EdgeTexts extends Edge {
    private static final int BLANKS = 0x20202020;
    private static final String[] GOOD = {"weeps 1;", "on 0player 0piece 0;", "on 0 empty;", "piece 0 like 1;"};

    private static int blanks(WeepingPiano x) {
        return x.feed(BLANKS, BLANKS, BLANKS, BLANKS, BLANKS);
    }

    /** The TAPE has so many bytes, and no more. */
    private static void length(WeepingPiano x, int n) {
        due("more than " + n, x.end(n + 1), false);
        due("all " + n, x.end(n), true);
    }

    // 9: feed

    static void p09TwentyComeBehindTheTape() {
        WeepingPiano x = new WeepingPiano();
        for (int n = 20; n <= 400; n += 20) due("feed", blanks(x), n);
        length(x, 400);
    }

    static void p09MoreThan400DoNotCome() {
        WeepingPiano x = new WeepingPiano();
        for (int n = 20; n <= 400; n += 20) blanks(x);
        due("420", x.feed(-1, -1, -1, -1, -1), NONE);
        length(x, 400);
        due("what there was stays", x.text(0), 0);
    }

    static void p09FourHundredMayBeAnd401MayNot() {
        for (int left : new int[] {380, 381, 399, 400}) {
            WeepingPiano x = new WeepingPiano();
            for (int n = 20; n <= 400; n += 20) blanks(x);
            x.end(left);
            due("behind " + left, blanks(x), left == 380 ? 400 : NONE);
            length(x, left == 380 ? 400 : left);
        }
    }

    static void p09OfEachNumberTheHighestByteIsFirst() {
        for (int place = 0; place < 20; place++) {
            int[] v = {BLANKS, BLANKS, BLANKS, BLANKS, BLANKS};
            v[place / 4] ^= (' ' ^ 'q') << (24 - place % 4 * 8);
            WeepingPiano x = new WeepingPiano();
            x.feed(v[0], v[1], v[2], v[3], v[4]);
            due("a fault", x.text(0), NONE);
            due("its place", x.fault(1), place);
        }
    }

    static void p09BytesHaveNoSign() {
        for (int shift = 0; shift <= 24; shift += 8) {
            WeepingPiano x = new WeepingPiano();
            x.feed(BLANKS, BLANKS | 255 << shift, BLANKS, BLANKS, BLANKS);
            x.text(0);
            due("its place, and no other byte is touched", x.fault(1), 4 + (24 - shift) / 8);
        }
    }

    static void p09TheyComeBehindWhatIsThere() {
        WeepingPiano x = new WeepingPiano();
        blanks(x);
        x.end(7);
        due("how many", x.feed(BLANKS, BLANKS ^ (' ' ^ ';'), BLANKS, BLANKS, BLANKS), 27);
        x.text(0);
        due("place", x.fault(1), 7 + 7);
    }

    // 10: end

    static void p10AsManyAsItHas() {
        within("of 40, end", v -> {
            WeepingPiano x = new WeepingPiano();
            blanks(x);
            blanks(x);
            return x.end(v);
        }, 0, 40);
        within("of none, end", v -> new WeepingPiano().end(v), 0, 0);
    }

    static void p10TheFirstNAloneAreThere() {
        WeepingPiano x = piano(1, 1);
        Check.feed(x, "weeps 1;weeps 2;");
        due("eight", x.end(8), true);
        due("not nine then", x.end(9), false);
        due("lines", x.text(0), 1);
        due("the first", x.of(0, 10), 1);
    }

    static void p10WhatWasCutDoesNotComeAgain() {
        WeepingPiano x = new WeepingPiano();
        Check.feed(x, "weeps 1;weeps 2;");
        x.end(0);
        due("none", x.end(1), false);
        due("lines", x.text(0), 0);
    }

    static void p10ACutAmidAWordOrANumber() {
        WeepingPiano x = piano(1, 1);
        for (Object[] v : new Object[][] {{"weeps sad", 8, 6}, {"weeps", 4, 0}, {"weeps 1 when", 11, 8}}) {
            Check.feed(x, (String) v[0]);
            x.end((Integer) v[1]);
            due("a fault", x.text(0), NONE);
            due("its place", x.fault(1), (Integer) v[2]);
        }
        Check.feed(x, "weeps 12345");
        x.end(10);
        x.text(0);
        due("a number of four digits, then the end", x.fault(1), 10);
    }

    static void p10ARefusedOneChangesNothing() {
        WeepingPiano x = new WeepingPiano();
        Check.feed(x, "weeps 1;weeps 2;");
        for (int n : new int[] {-1, 17, LEAST, MOST}) due("end(" + n + ")", x.end(n), false);
        length(x, 16);
        due("lines", x.text(0), 2);
    }

    // 11: text

    static void p11ThereAreTexts0To3() {
        answered("text", v -> new WeepingPiano().text(v), 0, 3);
    }

    static void p11NoSuchTextTellsFault0() {
        for (int k : new int[] {-1, 4, LEAST, MOST}) {
            WeepingPiano x = new WeepingPiano();
            faulty(x, 0, "weeps;", 1, 5);
            due("text", x.text(k), NONE);
            due("fault", x.fault(0), 0);
            due("place", x.fault(1), NONE);
            faulty(x, 0, "weeps;", 1, 5);
            due("text of what would be a fault", Check.tell(x, k, "?"), NONE);
            due("fault", x.fault(0), 0);
            due("place", x.fault(1), NONE);
        }
    }

    static void p11NoSuchTextChangesNoText() {
        WeepingPiano x = piano(2, 1);
        for (int k = 0; k < 4; k++) told(x, k, GOOD[k]);
        Check.tell(x, 4, GOOD[0].repeat(2));
        Check.tell(x, -1, GOOD[0].repeat(2));
        for (int k = 0; k < 4; k++) due("lines of " + k, x.look(11 + k), 1);
    }

    static void p11TheTapeIsEmptyThen() {
        for (int k = 0; k < 4; k++) {
            WeepingPiano x = piano(2, 1);
            told(x, k, GOOD[k]);
            length(x, 0);
            Check.tell(x, k, "nothing of this");
            length(x, 0);
        }
        WeepingPiano x = new WeepingPiano();
        Check.tell(x, 4, "weeps 1;");
        length(x, 0);
    }

    static void p11AnEmptyTapeIsATextOfNoLines() {
        for (int k = 0; k < 4; k++) {
            WeepingPiano x = piano(2, 1);
            told(x, k, GOOD[k]);
            due("lines", x.look(11 + k), 1);
            due("empty", x.text(k), 0);
            due("lines then", x.look(11 + k), 0);
        }
        WeepingPiano x = piano(2, 1);
        told(x, 3, " ".repeat(399) + "\n");
        due("blanks alone", x.look(14), 0);
    }

    static void p11TheyAre16LinesAtMost() {
        for (int k = 0; k < 4; k++) {
            WeepingPiano x = piano(2, 1);
            told(x, k, GOOD[k].repeat(16));
            due("lines", x.look(11 + k), 16);
            faulty(x, k, GOOD[k].repeat(17), 3, 16 * GOOD[k].length());
            due("as it was", x.look(11 + k), 16);
            told(x, k, GOOD[k].repeat(15));
        }
    }

    static void p11AFaultLeavesTheTextAsItWas() {
        WeepingPiano x = piano(3, 1);
        told(x, 0, "weeps 5;damps 0;");
        told(x, 1, "on 0 player 0 piece 1 1;");
        told(x, 2, "on 0 dry 77;");
        told(x, 3, "piece 0 like 2;");
        faulty(x, 0, "weeps 6;weeps", 1, 13);
        faulty(x, 1, "on 0 player 0 piece 0 0 0;on 0 player 0 piece 3;", 2, 46);
        faulty(x, 2, "on 0 dry 5;on 0 dry 100;", 2, 20);
        faulty(x, 3, "piece 0 like 1;piece 1 like 1;", 2, 28);
        due("law", x.of(0, 10), 5);
        due("likeness", x.of(0, 5), 4);
        due("programme", x.days(1), 2);
        due("its piece", x.of(1, 3), 2);
        due("care", x.look(4), 77);
    }

    static void p11ATextTakesThePlaceOfTheOneAhead() {
        WeepingPiano x = piano(3, 1);
        told(x, 0, "weeps 5;damps 0;");
        told(x, 0, "damps 3;");
        due("weeps by no line", x.of(0, 10), 0);
        told(x, 3, "piece 0 like 1;piece 0 like 2;");
        told(x, 3, "piece 1 like 2;");
        due("likeness", x.of(0, 5), 0);
    }

    static void p11AShorterTextLeavesNothingOfTheLonger() {
        WeepingPiano x = piano(4, 1);
        told(x, 0, "damps 1;weeps 5;weeps 6;");
        told(x, 0, "damps 1;");
        due("law", x.of(0, 10), 0);
        told(x, 1, "on 0 player 0 piece 0 1;on 0 player 0 piece 1 2;");
        told(x, 1, "on 0 player 0 piece 0;");
        told(x, 2, "on 9 empty;on 0 dry 5;");
        told(x, 2, "on 9 empty;");
        told(x, 3, "piece 0 like 1;piece 1 like 2;");
        told(x, 3, "piece 0 like 1;");
        due("programme", x.days(1), 1);
        due("care", x.look(4), 10);
        due("likeness", x.of(1, 5), 1);
        due("group", x.alike(1), 3);
        for (int k = 1; k < 4; k++) x.text(k);
        due("no programme", x.days(1), 0);
        due("no likeness", x.alike(0), 1);
        due("groups", x.alike(NONE), 4);
    }

    static void p11ManyTextsOneBehindTheOther() {
        WeepingPiano x = piano(1, 1);
        for (int i = 0; i < 20; i++) {
            told(x, 0, "weeps " + i + "+1".repeat(90) + "-89 when 1=1;");
            due("the law of then", x.of(0, 10), i + 1);
        }
    }

    static void p11ATextOf400Bytes() {
        WeepingPiano x = piano(1, 1);
        String sum = "weeps1" + "+0".repeat(196) + ";";
        told(x, 0, sum + " ");
        due("weeps", x.of(0, 10), 1);
        String longest = "weeps7 " + "*1".repeat(196) + ";";
        due("bytes", longest.length(), 400);
        told(x, 0, longest);
        due("weeps", x.of(0, 10), 7);
        faulty(x, 0, "weeps7  " + "*1".repeat(196), 1, 400);
    }

    static void p11ATextOf400Tokens() {
        for (int k = 0; k < 4; k++) {
            faulty(piano(2, 1), k, ";".repeat(400), 1, 0);
            faulty(piano(2, 1), k, "+".repeat(399) + "1", 1, 0);
        }
        faulty(piano(2, 1), 0, "damps1" + "-1".repeat(197), 1, 400);
        due("no such", Check.tell(piano(2, 1), 4, "(".repeat(400)), NONE);
    }

    // 12: fault

    static void p12WhatIs0Or1() {
        WeepingPiano x = new WeepingPiano();
        faulty(x, 0, "weeps;", 1, 5);
        refused("what", x::fault, -1, 2, LEAST, MOST);
        answered("what", x::fault, 0, 1);
    }

    static void p12WithoutAFault0AndNoPlace() {
        WeepingPiano x = new WeepingPiano();
        due("no text yet", x.fault(0), 0);
        due("no place", x.fault(1), NONE);
        told(x, 0, "weeps 1;");
        due("a good one", x.fault(0), 0);
        due("no place", x.fault(1), NONE);
    }

    static void p12OfTheLatestTextAlone() {
        WeepingPiano x = piano(2, 1);
        faulty(x, 0, "weeps;", 1, 5);
        Check.feed(x, "weeps 1;");
        due("feeding changes nothing", x.fault(0) * 100 + x.fault(1), 105);
        x.text(0);
        due("none now", x.fault(0), 0);
        due("no place", x.fault(1), NONE);
        faulty(x, 2, "on 0 tune 8;", 2, 10);
        faulty(x, 3, "piece", 1, 5);
    }

    static void p12TheEndIsTheTextsLength() {
        WeepingPiano x = piano(2, 1);
        faulty(x, 0, "weeps", 1, 5);
        faulty(x, 0, "weeps   ", 1, 8);
        faulty(x, 0, "weeps 1\n\n", 1, 9);
        faulty(x, 0, "weeps 1 when", 1, 12);
        faulty(x, 0, "weeps 1" + " ".repeat(393), 1, 400);
        faulty(x, 1, "on", 1, 2);
        faulty(x, 1, "on 0 player 0 piece 0 1", 1, 23);
        faulty(x, 2, "on 0", 1, 4);
        faulty(x, 2, "on 0 empty ", 1, 11);
        faulty(x, 3, "piece 0 like", 1, 12);
        faulty(x, 3, "piece 0 like 1", 1, 14);
    }

    static void p12NumbersHaveOneToFourDigits() {
        WeepingPiano x = piano(2, 1);
        told(x, 0, "weeps 0;weeps 9999;weeps 0000;weeps 0001/0001;");
        faulty(x, 0, "weeps 00000;", 1, 6);
        faulty(x, 0, "weeps 99999;", 1, 6);
        faulty(x, 0, "weeps 1/00000;", 1, 8);
        faulty(x, 0, "weeps 123456789012345678901234567890;", 1, 6);
        told(x, 1, "on 0000 player 0000 piece 0001;");
        faulty(x, 1, "on 00000 player 0 piece 0;", 1, 3);
        faulty(x, 1, "on 0 player 00000 piece 0;", 1, 12);
        faulty(x, 1, "on 0 player 0 piece 00000;", 1, 20);
        told(x, 2, "on 0999 child 0099;");
        faulty(x, 2, "on 0 child 00099;", 1, 11);
        told(x, 3, "piece 0000 like 0001;");
        faulty(x, 3, "piece 00000 like 1;", 1, 6);
        faulty(x, 3, "piece 0 like 00000;", 1, 13);
    }

    static void p12DigitsAsManyAsStandTogether() {
        WeepingPiano x = piano(2, 1);
        faulty(x, 0, "weeps 1 2;", 1, 8);
        faulty(x, 0, "weeps 12 34;", 1, 9);
        told(x, 0, "weeps 1234;");
        told(x, 1, "on 0 player 0 piece 0 1\n1 0;");
        faulty(x, 1, "on 0 player 0 piece 01 10;", 2, 23);
    }

    static void p12LettersAsManyAsStandTogether() {
        WeepingPiano x = piano(2, 1);
        faulty(x, 0, "weepsdamps 1;", 1, 0);
        faulty(x, 0, "weeps sadhard;", 1, 6);
        faulty(x, 0, "weeps sa d;", 1, 6);
        faulty(x, 0, "weepss 1;", 1, 0);
        faulty(x, 0, "weep s 1;", 1, 0);
        faulty(x, 0, "weeps Sad;", 1, 6);
        faulty(x, 0, "weeps sadZ;", 1, 6);
        faulty(x, 0, "weeps zsad;", 1, 6);
        told(x, 0, "weeps1when2=2or3=4;");
        told(x, 1, "on0player0piece0;");
        told(x, 2, "on0tune0;");
        told(x, 3, "piece0like1;");
    }

    static void p12EachByteBehindANumber() {
        for (int c = 0; c < 256; c++) {
            WeepingPiano x = new WeepingPiano();
            String text = "weeps 1" + (char) c + ";";
            boolean good = c == ' ' || c == '\n' || c >= '0' && c <= '9';
            if (good) {
                told(x, 0, text);
            } else {
                // Behind ; a line must begin, behind + - * / a NUMBER must stand; anything else can't stand there itself.
                faulty(x, 0, text, 1, ";+-*/".indexOf(c) >= 0 && c != 0 ? 8 : 7);
            }
        }
    }

    static void p12EachByteBehindAWord() {
        for (int c = 0; c < 256; c++) {
            WeepingPiano x = new WeepingPiano();
            boolean letter = c >= 'a' && c <= 'z' || c >= 'A' && c <= 'Z';
            boolean blank = c == ' ' || c == '\n';
            if (blank || c >= '0' && c <= '9') {
                told(x, 0, "weeps" + (char) c + "1;");
            } else {
                faulty(x, 0, "weeps" + (char) c + "1;", 1, letter ? 0 : 5);
            }
        }
    }

    static void p12KeywordsAreThoseOfTheText() {
        String all = "weeps damps settles when or and not sad hard art wish water salt flat string fire minute played day"
                + " on player piece tune empty child dry like";
        List<String> first = List.of(" weeps damps settles ", " on ", " on ", " piece ");
        for (String word : all.split(" ")) {
            for (int k = 0; k < 4; k++) {
                boolean begins = first.get(k).contains(" " + word + " ");
                faulty(piano(2, 1), k, word, 1, begins ? word.length() : 0);
            }
            boolean value = " sad hard art wish water salt flat string fire minute played day ".contains(" " + word + " ");
            faulty(piano(2, 1), 0, "weeps " + word, 1, value ? 6 + word.length() : 6);
            boolean care = " tune empty child fire dry ".contains(" " + word + " ");
            faulty(piano(2, 1), 2, "on 0 " + word, 1, care ? 5 + word.length() : 5);
            faulty(piano(2, 1), 1, "on 0 " + word, 1, word.equals("player") ? 11 : 5);
            faulty(piano(2, 1), 3, "piece 0 " + word, 1, word.equals("like") ? 12 : 8);
        }
    }

    static void p12WhatCannotStandInALaw() {
        WeepingPiano x = piano(2, 1);
        Object[][] all = {{";", 0}, {"1;", 0}, {"weeps;", 5}, {"weeps 1", 7}, {"weeps 1;;", 8}, {"weeps +1;", 6}, {"weeps 1+;", 8},
            {"weeps 1-;", 8}, {"weeps 1*;", 8}, {"weeps 1/;", 8}, {"weeps 1/sad;", 8}, {"weeps 1/2/;", 10}, {"weeps 1**2;", 8},
            {"weeps (1);", 6}, {"weeps 1=1;", 7}, {"weeps 1 or 1;", 8}, {"weeps not 1;", 6}, {"weeps 1 when;", 12},
            {"weeps 1 when 1;", 14}, {"weeps 1 when 1=;", 15}, {"weeps 1 when =1;", 13}, {"weeps 1 when 1=1=1;", 16},
            {"weeps 1 when 1=1 or;", 19}, {"weeps 1 when 1=1 and;", 20}, {"weeps 1 when or 1=1;", 13}, {"weeps 1 when not;", 16},
            {"weeps 1 when ();", 14}, {"weeps 1 when (1=1;", 17}, {"weeps 1 when 1=1);", 16}, {"weeps 1 when (1)=1;", 15},
            {"weeps 1 when 1=(1);", 15}, {"weeps 1 when 1=1 not 1=1;", 17}, {"weeps 1 when 1=1 when 1=1;", 17},
            {"weeps 1 when or +;", 13}, {"weeps 1 when and 1/0;", 13}, {"weeps 1 when + or +;", 13},
            {"weeps 1 when 1=or +;", 15}, {"weeps 1 when 1<>1;", 15}, {"weeps 1 weeps 1;", 8}, {"weeps 1 when 1=1 1=1;", 17}};
        for (Object[] v : all) faulty(x, 0, (String) v[0], 1, (Integer) v[1]);
        due("no line was taken", x.look(11), 0);
    }

    static void p12WhatCannotStandInTheOthers() {
        WeepingPiano x = piano(2, 1);
        Object[][] all = {{1, ";", 0}, {1, "on;", 2}, {1, "on on;", 3}, {1, "on 0;", 4}, {1, "on 0 0;", 5}, {1, "on 0 player;", 11},
            {1, "on 0 player 0;", 13}, {1, "on 0 player 0 0;", 14}, {1, "on 0 player 0 piece;", 19},
            {1, "on 0 player 0 piece 0 piece 1;", 22}, {1, "on 0 player 0 piece 0+1;", 21}, {1, "on 0 player 0 piece 0;;", 22},
            {1, "on -1 player 0 piece 0;", 3}, {2, "on 0;", 4}, {2, "on 0 0;", 5}, {2, "on 0 tune;", 9}, {2, "on 0 tune -1;", 10},
            {2, "on 0 empty 0;", 11}, {2, "on 0 tune 0 1;", 12}, {2, "on 0 child;", 10}, {2, "on 0 fire;", 9}, {2, "on 0 dry;", 8},
            {2, "on 0 empty;empty;", 11}, {2, "on 0 tune 0 empty;", 12}, {3, "piece;", 5}, {3, "piece 0;", 7}, {3, "piece 0 1;", 8}, {3, "piece 0 0;", 8},
            {3, "piece 0 like;", 12}, {3, "piece 0 like 1 0;", 15}, {3, "piece 0 like 1 like 0;", 15}, {3, "like 0 piece 1;", 0},
            {3, "piece 0 like 1;0 like 1;", 15}};
        for (Object[] v : all) faulty(x, (Integer) v[0], (String) v[1], 1, (Integer) v[2]);
        due("no line was taken", x.look(12) + x.look(13) + x.look(14), 0);
    }

    static void p12TheFirstByItsPlace() {
        WeepingPiano x = piano(2, 1);
        faulty(x, 0, "weeps 1/0+;", 2, 8);
        faulty(x, 0, "weeps 1/0 when " + "(".repeat(9) + ";", 2, 8);
        faulty(x, 0, "weeps 1+;weeps 1/0;", 1, 8);
        faulty(x, 0, "weeps 1 when " + "(".repeat(9) + "1/0;", 3, 21);
        faulty(x, 1, "on 1000 player 9 piece;", 2, 3);
        faulty(x, 1, "on 0 player 0 piece 0 0 0 0 0 0 0 2 ?", 3, 32);
        faulty(x, 2, "on 0 tune 8 8;", 2, 10);
        faulty(x, 3, "piece 0 like 0 ?", 2, 13);
        faulty(x, 3, GOOD[3].repeat(16) + "piece 9 like 9;", 3, 240);
    }

    static void p12AtOnePlaceTheLeast() {
        WeepingPiano x = piano(2, 1);
        faulty(x, 1, "on 0 player 0 piece 0 0 0 0 0 0 2;", 2, 32);
        faulty(x, 1, "on 0 player 0 piece 0 0 0 0 0 0 00000;", 1, 32);
        for (int k = 0; k < 4; k++) {
            faulty(x, k, GOOD[k].repeat(16) + "like", 1, 16 * GOOD[k].length());
            faulty(x, k, GOOD[k].repeat(16) + ";", 1, 16 * GOOD[k].length());
        }
    }

    static void p12APartBy0() {
        WeepingPiano x = new WeepingPiano();
        for (String nought : new String[] {"0", "00", "000", "0000"}) faulty(x, 0, "weeps 7 / " + nought + ";", 2, 10);
        faulty(x, 0, "weeps 7/1/0;", 2, 10);
        faulty(x, 0, "weeps 1 when 1=1/0;", 2, 17);
        faulty(x, 0, "weeps 1 when 1/0=1;", 2, 15);
        faulty(x, 0, "weeps 1 when not(1/0);", 2, 19);
        told(x, 0, "weeps 7/1;weeps 7/9999;weeps 0/7;weeps 7*0;");
    }

    /** Which numbers a text takes in a place; those that it does not are a FAULT 2 at the NUMBER. */
    private static void takes(int k, String ahead, String behind, int low, int high) {
        for (int v : new int[] {low, high}) told(piano(2, 1), k, ahead + v + behind);
        for (int v : new int[] {low - 1, high + 1, 9999}) {
            if (v >= 0) faulty(piano(2, 1), k, ahead + v + behind, 2, ahead.length());
        }
    }

    static void p12ADayIs0To999() {
        takes(1, "on ", " player 0 piece 0;", 0, 999);
        takes(2, "on ", " empty;", 0, 999);
    }

    static void p12AStringIs0To7() {
        takes(2, "on 0 tune ", ";", 0, 7);
    }

    static void p12AChildTakes1To99() {
        takes(2, "on 0 child ", ";", 1, 99);
    }

    static void p12FireIs0To9() {
        takes(2, "on 0 fire ", ";", 0, 9);
    }

    static void p12DryIs0To99() {
        takes(2, "on 0 dry ", ";", 0, 99);
    }

    static void p12APlayerThatThereIs() {
        for (int n : new int[] {0, 1, 6}) {
            WeepingPiano x = piano(12, n);
            if (n > 0) told(x, 1, "on 0 player " + (n - 1) + " piece 0;");
            faulty(x, 1, "on 0 player " + n + " piece 0;", 2, 12);
            faulty(x, 1, "on 0 player 9999 piece 0;", 2, 12);
        }
    }

    static void p12APieceThatThereIs() {
        for (int n : new int[] {0, 1, 2, 12}) {
            WeepingPiano x = piano(n, 6);
            if (n > 0) told(x, 1, "on 0 player 0 piece " + (n - 1) + " " + (n - 1) + ";");
            faulty(x, 1, "on 0 player 0 piece " + n + ";", 2, 20);
            if (n > 0) faulty(x, 1, "on 0 player 0 piece 0 " + n + ";", 2, 22);
            if (n > 1) told(x, 3, "piece " + (n - 1) + " like 0;piece 0 like " + (n - 1) + ";");
            faulty(x, 3, "piece " + n + " like 0;", 2, 6);
            if (n > 0) faulty(x, 3, "piece 0 like " + n + ";", 2, 13);
        }
    }

    static void p12SixPiecesAtMost() {
        WeepingPiano x = piano(2, 1);
        told(x, 1, "on 0 player 0 piece 0;on 0 player 0 piece 0 1 0 1 0 1;");
        faulty(x, 1, "on 0 player 0 piece 0 1 0 1 0 1 0;", 3, 32);
        faulty(x, 1, "on 0 player 0 piece 0 1 0 1 0 1 1 1 1;", 3, 32);
        faulty(x, 1, "on 0 player 0 piece 0;on 0 player 0 piece 1 1 1 1 1 1 1;", 3, 54);
        faulty(x, 1, "on 0 player 0 piece 0 1 0 1 0 2 0;", 2, 30);
    }

    static void p12TheSamePieceAgainOfLikeness() {
        WeepingPiano x = piano(12, 1);
        faulty(x, 3, "piece 0 like 0;", 2, 13);
        faulty(x, 3, "piece 11 like 11;", 2, 14);
        faulty(x, 3, "piece 11 like 0011;", 2, 14);
        told(x, 3, "piece 11 like 10;piece 11 like 10;piece 10 like 11;");
        told(x, 1, "on 0 player 0 piece 1 1;");
    }

    static void p12TheSeventeenthLineAtItsKeyword() {
        for (int k = 0; k < 4; k++) {
            WeepingPiano x = piano(2, 1);
            int ahead = 16 * GOOD[k].length();
            faulty(x, k, GOOD[k].repeat(16) + "  " + GOOD[k], 3, ahead + 2);
            faulty(x, k, GOOD[k].repeat(16) + GOOD[k].substring(0, 2).trim(), k == 0 || k == 3 ? 1 : 3, ahead);
            told(x, k, GOOD[k].repeat(16) + "  ");
        }
        faulty(new WeepingPiano(), 0, "damps 1;".repeat(8) + "weeps 1;".repeat(8) + "settles", 3, 128);
    }

    static void p12EightMayBeOpen() {
        WeepingPiano x = piano(1, 1);
        String[] deep = {"(".repeat(8) + "1=1" + ")".repeat(8), "not ".repeat(8) + "1=1", "not(".repeat(4) + "1=1" + ")".repeat(4),
            "(".repeat(7) + "not 1=2" + ")".repeat(7), "not ".repeat(7) + "not 1=1 and not not 1=1",
            "(".repeat(8) + "1=1" + ")".repeat(8) + " and " + "(".repeat(8) + "1=1" + ")".repeat(8)};
        for (String b : deep) {
            told(x, 0, "weeps 3 when " + b + ";weeps 4;");
            due("it is so: " + b, x.of(0, 10), 3);
        }
        told(x, 0, ("weeps 3 when " + "(".repeat(8) + "1=1" + ")".repeat(8) + ";").repeat(3));
    }

    static void p12TheNinthThatIsOpen() {
        WeepingPiano x = piano(1, 1);
        faulty(x, 0, "weeps 3 when " + "(".repeat(9) + "1=1" + ")".repeat(9) + ";", 3, 21);
        faulty(x, 0, "weeps 3 when " + "not ".repeat(9) + "1=1;", 3, 45);
        faulty(x, 0, "weeps 3 when " + "not(".repeat(4) + "not 1=1;", 3, 29);
        faulty(x, 0, "weeps 3 when " + "not(".repeat(4) + "(1=1;", 3, 29);
        faulty(x, 0, "weeps 3 when " + "(".repeat(8) + "1=1 and not 1=1;", 3, 29);
        faulty(x, 0, "weeps 3 when " + "(".repeat(8) + "1=1 or (1=1;", 3, 28);
        faulty(x, 0, "weeps 3;weeps 3 when " + "(".repeat(9) + ";", 3, 29);
        faulty(x, 0, "weeps 3 when " + "not ".repeat(8) + "(1=1);", 3, 45);
        faulty(x, 0, "weeps 3 when (1=1) and " + "(".repeat(9), 3, 31);
        due("no line was taken", x.look(11), 0);
    }

    static void p12OnesThatAreClosedDoNotCount() {
        WeepingPiano x = piano(1, 1);
        told(x, 0, "weeps 3 when " + "(1=1)and ".repeat(20) + "1=1;weeps 4;");
        due("brackets", x.of(0, 10), 3);
        told(x, 0, "weeps 3 when " + "not 1=2 and ".repeat(20) + "not 1=2;weeps 4;");
        due("nots", x.of(0, 10), 3);
        told(x, 0, "weeps 3 when " + "(".repeat(7) + "(1=1)and(1=1)and not 1=2 and(1=1)" + ")".repeat(7) + ";weeps 4;");
        due("inside seven", x.of(0, 10), 3);
    }
}
