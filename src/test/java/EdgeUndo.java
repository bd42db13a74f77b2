import java.util.ArrayList;
import java.util.List;
import java.util.function.Consumer;
import java.util.function.Predicate;

/** Edges of undo and the image, promises 35 and 36; and that a refused call of any promise changes nothing. */
final class EdgeUndo extends Edge {

    /** Something of everything: PIECES, PLAYERS, TEXTS, what is for thought, lines of THE BOOK, two that can be undone, an image, a TAPE, a FAULT. */
    private static WeepingPiano busy() {
        WeepingPiano x = new WeepingPiano();
        x.piece(2, 5, 3);
        x.piece(1, 0, 8);
        x.piece(3, 9, 9);
        x.player(4, 1);
        x.player(9, 9);
        Check.tell(x, 0, "weeps sad+7;damps 300;settles 5+fire;");
        Check.tell(x, 1, "on 1 player 0 piece 0 1 2;on 2 player 1 piece 2;");
        Check.tell(x, 2, "on 1 fire 4;on 2 dry 20;");
        Check.tell(x, 3, "piece 0 like 2;");
        for (int t : new int[] {10, 12, 14, 20, 22}) x.tone(t);
        x.period(3, 12);
        x.pedal(7, 5, 3);
        x.pedal(9, 5, 4);
        x.state(12345);
        x.set(5, 0, 77);
        x.set(4, 6, 9);
        x.act(2, 5);
        x.days(1);
        x.image(true);
        x.set(7, 0, 2);
        x.play(1, 2);
        x.act(0, 6);
        Check.tell(x, 0, "weeps 1 when;");
        Check.feed(x, "damps 7;damps 8;");
        return x;
    }

    /** All places taken. */
    private static WeepingPiano full() {
        WeepingPiano x = piano(12, 6);
        for (int i = 0; i < 16; i++) x.tone(i);
        for (int i = 0; i < 9; i++) x.pedal(i, 30, i);
        Check.tell(x, 0, "weeps 1;".repeat(16));
        for (int i = 0; i < 20; i++) x.feed(i, 0, 0, 0, 0);
        x.act(2, 1);
        return x;
    }

    /** What can be asked of an object in some 200 calls, at last what its TAPE and its image are. */
    private static List<Integer> traits(WeepingPiano x) {
        List<Integer> all = new ArrayList<>();
        for (int what = 0; what <= 15; what++) all.add(x.look(what));
        for (int p = 0; p < 4; p++) for (int what : new int[] {0, 1, 2, 3, 4, 5, 10, 11}) all.add(x.of(p, what));
        for (int p = 0; p < 2; p++) for (int what = 0; what < 3; what++) all.add(x.who(p, what));
        for (int s = 0; s < 8; s++) for (int what = 0; what < 2; what++) all.add(x.string(s, what));
        for (int i = 0; i < 6; i++) for (int what = 0; what < 4; what++) all.add(x.book(i, what));
        for (int what = 0; what < 4; what++) all.add(x.tune(what));
        for (int what = 0; what < 3; what++) all.add(x.mud(what));
        for (int what = 0; what < 4; what++) all.add(x.goes(3, what));
        all.add(x.damps(0, 0, 0));
        all.add(x.settles(0, 0));
        all.add(x.alike(NONE));
        all.add(x.fault(0));
        all.add(x.fault(1));
        for (int n : new int[] {401, 400, 399, 17, 16, 15}) all.add(x.end(n) ? 1 : 0);
        all.add(x.text(0));
        all.add(x.fault(1));
        for (int i = 0; i < 3; i++) {
            all.add(x.undo() ? 1 : 0);
            for (int what = 2; what <= 10; what++) all.add(x.look(what));
        }
        all.add(x.image(false) ? 1 : 0);
        for (int what = 0; what <= 15; what++) all.add(x.look(what));
        return all;
    }

    /** A call on an object leaves it as another one is that was made alike. */
    private static void leaves(String what, WeepingPiano x, WeepingPiano like, Predicate<WeepingPiano> isRefused) {
        due(what + " is refused", isRefused.test(x), true);
        List<Integer> got = traits(x);
        List<Integer> want = traits(like);
        for (int i = 0; i < want.size(); i++) due(what + ": trait " + i, got.get(i), want.get(i));
    }

    private static void leavesBusy(String what, Predicate<WeepingPiano> isRefused) {
        leaves(what, busy(), busy(), isRefused);
    }

    private static void leavesFull(String what, Predicate<WeepingPiano> isRefused) {
        leaves(what, full(), full(), isRefused);
    }

    // A refused call changes nothing

    static void p03ARefusedPieceChangesNothing() {
        leavesBusy("0 minutes", x -> x.piece(0, 0, 0) == NONE);
        leavesBusy("31 minutes", x -> x.piece(31, 0, 0) == NONE);
        leavesBusy("sad 10", x -> x.piece(1, 10, 0) == NONE);
        leavesBusy("hard -1", x -> x.piece(1, 0, -1) == NONE);
        leavesFull("the 13th", x -> x.piece(1, 0, 0) == NONE);
    }

    static void p04ARefusedPlayerChangesNothing() {
        leavesBusy("art 10", x -> x.player(10, 0) == NONE);
        leavesBusy("wish -1", x -> x.player(0, -1) == NONE);
        leavesFull("the 7th", x -> x.player(0, 0) == NONE);
    }

    static void p05ARefusedSetChangesNothing() {
        int[][] wrong = {{0, 3, 0}, {0, 0, 10}, {1, -1, 0}, {1, 0, -1}, {2, 2, 0}, {2, 0, 10}, {3, -1, 0}, {3, 0, 10}, {4, 8, 0}, {4, 0, 51},
            {5, 0, 1000}, {6, 0, 100}, {7, 0, 10}, {8, 0, 0}, {-1, 0, 0}};
        for (int[] w : wrong) leavesBusy("set " + w[0], x -> !x.set(w[0], w[1], w[2]));
    }

    static void p06ARefusedPlayChangesNothing() {
        leavesBusy("no player", x -> x.play(2, 0) == NONE);
        leavesBusy("no piece", x -> x.play(0, 3) == NONE);
    }

    static void p07ARefusedActChangesNothing() {
        leavesBusy("a string in tune", x -> !x.act(0, 6));
        leavesBusy("no string", x -> !x.act(0, 8));
        leavesBusy("no child", x -> !x.act(2, 0));
        leavesBusy("another what", x -> !x.act(3, 1));
        leavesFull("no salt", x -> !x.act(1, 0));
    }

    static void p08RefusedDaysChangeNothing() {
        leavesBusy("0", x -> x.days(0) == NONE);
        leavesBusy("21", x -> x.days(21) == NONE);
    }

    static void p09ARefusedFeedChangesNothing() {
        leavesFull("420", x -> x.feed(-1, -1, -1, -1, -1) == NONE);
    }

    static void p10ARefusedEndChangesNothingElse() {
        leavesBusy("-1", x -> !x.end(-1));
        leavesBusy("17", x -> !x.end(17));
        leavesFull("401", x -> !x.end(401));
    }

    static void p11ATextThatIsNoneForgetsNothing() {
        for (int k : new int[] {4, -1, LEAST, MOST}) {
            WeepingPiano x = busy();
            due("no such", x.text(k), NONE);
            sameLooks(x, busy());
        }
    }

    static void p11AFaultForgetsNothing() {
        for (int k = 1; k < 4; k++) {
            WeepingPiano x = busy();
            due("a fault", x.text(k), NONE);
            due("told", x.fault(0), 1);
            sameLooks(x, busy());
        }
    }

    private static void sameLooks(WeepingPiano x, WeepingPiano y) {
        for (int what = 0; what <= 15; what++) due("look(" + what + ")", x.look(what), y.look(what));
    }

    static void p22ARefusedToneChangesNothingElse() {
        leavesBusy("61", x -> x.tone(61) == NONE);
        leavesBusy("-2", x -> x.tone(-2) == NONE);
        leavesFull("the 17th", x -> x.tone(0) == NONE);
    }

    static void p26ARefusedPeriodChangesNothingElse() {
        leavesBusy("0", x -> !x.period(3, 0));
        leavesBusy("100", x -> !x.period(3, 100));
        leavesBusy("no string", x -> !x.period(8, 1));
    }

    static void p28ARefusedPedalChangesNothingElse() {
        leavesBusy("60", x -> x.pedal(60, 1, 0) == NONE);
        leavesBusy("-2", x -> x.pedal(-2, 1, 0) == NONE);
        leavesBusy("lasts 31", x -> x.pedal(0, 31, 0) == NONE);
        leavesBusy("tone 61", x -> x.pedal(0, 1, 61) == NONE);
        leavesFull("the tenth", x -> x.pedal(0, 1, 0) == NONE);
    }

    static void p19WhatIsAskedChangesNothing() {
        leavesBusy("all that asks", x -> {
            x.of(0, 10);
            x.who(0, 2);
            x.string(0, 0);
            x.damps(0, 0, 7);
            x.settles(0, 0);
            x.book(0, 0);
            x.goes(20, 0);
            x.lasts(0, 7, 0);
            x.lasts(0, 7, 11);
            x.chords(145, 137, 1);
            x.tune(10);
            x.canon(1, 3, 1);
            x.bar(24, 255, 1);
            x.beats(NONE, 0);
            x.mud(2);
            x.whose(9, 1);
            x.have(1, 10);
            x.alike(0);
            x.pages(60, 2, 3, 0);
            x.game(1);
            x.look(0);
            return true;
        });
        leavesBusy("all that is refused of it", x -> x.of(3, 0) == NONE && x.who(2, 0) == NONE && x.string(8, 0) == NONE
                && x.damps(0, 0, 8) == NONE && x.settles(2, 0) == NONE && x.book(99, 0) == NONE - 1 && x.goes(21, 0) == NONE
                && x.lasts(0, 8, 0) == NONE && x.chords(0, 1, 0) == NONE && x.tune(15) == NONE && x.canon(16, 0, 0) == NONE
                && x.bar(25, 1, 0) == NONE && x.beats(8, 0) == NONE && x.mud(3) == NONE && x.whose(1000, 0) == NONE
                && x.have(13, 0) == NONE && x.alike(3) == NONE && x.pages(61, 1, 1, 0) == NONE && x.game(2) == NONE && x.look(16) == NONE);
    }

    // 35: undo

    static void p35NothingToGoBackTo() {
        WeepingPiano x = new WeepingPiano();
        due("new", x.undo(), false);
        x.set(5, 0, 50);
        due("behind what is told", x.undo(), false);
        due("it stays", x.look(2), 50);
        leaves("nothing", full(), full(), y -> y.undo() && !y.undo() && y.act(2, 1));
    }

    static void p35EachGoesBackAlone() {
        List<Consumer<WeepingPiano>> deeds = List.of(x -> x.play(0, 0), x -> x.act(0, 5), x -> x.act(1, 0), x -> x.act(2, 50), x -> x.days(1));
        for (int i = 0; i < deeds.size(); i++) {
            WeepingPiano x = undoable();
            deeds.get(i).accept(x);
            due("it is kept", x.look(15), 1);
            due("deed " + i, x.undo(), true);
            List<Integer> got = traits(x);
            List<Integer> want = traits(undoable());
            for (int t = 0; t < want.size(); t++) due("deed " + i + ": trait " + t, got.get(t), want.get(t));
        }
    }

    /** WATER, SALT and FLAT, a law that draws, a day that changes all; nothing that can be undone yet. */
    private static WeepingPiano undoable() {
        WeepingPiano x = piano(2, 1);
        Check.tell(x, 0, "weeps 30;damps 500;settles 9;");
        Check.tell(x, 1, "on 1 player 0 piece 0 1;");
        Check.tell(x, 2, "on 1 fire 7;on 1 dry 33;on 1 tune 5;on 1 child 2;");
        x.set(5, 0, 800);
        x.days(1);
        x.set(4, 5, 50);
        x.state(99);
        return x;
    }

    static void p35SixAreKept() {
        for (int n : new int[] {1, 5, 6, 7, 20}) {
            WeepingPiano x = new WeepingPiano();
            x.days(n);
            int kept = Math.min(6, n);
            due(n + " days: kept", x.look(15), kept);
            for (int i = 1; i <= kept; i++) {
                due("undo", x.undo(), true);
                due("day", x.look(8), n - i);
                due("left", x.look(15), kept - i);
            }
            due("no more", x.undo(), false);
            due("day", x.look(8), n - kept);
        }
    }

    static void p35FromTheLastDay() {
        WeepingPiano x = new WeepingPiano();
        for (int i = 0; i < 499; i++) x.days(20);
        x.days(19);
        due("one more", x.days(1), NONE);
        due("undo", x.undo(), true);
        due("day", x.look(8), 9998);
        due("two more", x.days(2), NONE);
        due("one more", x.days(1), 0);
        due("day", x.look(8), 9999);
    }

    static void p35SixOfUnlikeOnes() {
        WeepingPiano x = undoable();
        int salt = x.look(3);
        x.act(2, 1);
        x.act(2, 1);
        x.play(0, 0);
        x.act(0, 5);
        x.act(1, 0);
        due("five", x.look(15), 5);
        x.days(1);
        due("six", x.look(15), 6);
        x.act(2, 99);
        due("six still", x.look(15), 6);
        for (int i = 0; i < 6; i++) due("undo", x.undo(), true);
        due("the first child is not undone", x.undo(), false);
        due("water", x.look(2), 399);
        due("salt", x.look(3), salt);
        due("flat", x.string(5, 0), 50);
        due("state", x.look(10), 99);
        due("lines", x.look(9), 1);
    }

    static void p35WhatIsUndoneIsNotUndoneAgain() {
        WeepingPiano x = new WeepingPiano();
        x.set(5, 0, 500);
        x.act(2, 10);
        x.act(2, 20);
        x.undo();
        x.act(2, 40);
        due("two", x.look(15), 2);
        due("undo", x.undo(), true);
        due("water", x.look(2), 490);
        due("undo", x.undo(), true);
        due("water", x.look(2), 500);
        due("no more", x.undo(), false);
    }

    private static void forgets(String what, boolean forgets, Consumer<WeepingPiano> call) {
        WeepingPiano x = busy();
        x.end(0);
        due(what + ", ahead", x.look(15), 2);
        call.accept(x);
        due(what, x.look(15), forgets ? 0 : 2);
        due(what + ", undo", x.undo(), !forgets);
    }

    static void p35WhatIsToldForgetsThem() {
        forgets("state", true, x -> x.state(5));
        forgets("state as it is", true, x -> x.state(x.look(10)));
        forgets("piece", true, x -> x.piece(1, 0, 0));
        forgets("player", true, x -> x.player(0, 0));
        for (int w = 0; w < 8; w++) {
            int what = w;
            forgets("set " + w, true, x -> x.set(what, 0, 1));
        }
        forgets("programme", true, x -> Check.tell(x, 1, "on 0 player 0 piece 0;"));
        forgets("care", true, x -> Check.tell(x, 2, "on 0 empty;"));
        forgets("an empty programme", true, x -> x.text(1));
        forgets("an empty care", true, x -> x.text(2));
        forgets("going back to the image", true, x -> x.image(false));
    }

    static void p35TheLawLikenessAndWhatIsForThoughtDoNot() {
        forgets("law", false, x -> Check.tell(x, 0, "weeps 1;"));
        forgets("an empty law", false, x -> x.text(0));
        forgets("likeness", false, x -> Check.tell(x, 3, "piece 0 like 1;"));
        forgets("an empty likeness", false, x -> x.text(3));
        forgets("tone", false, x -> x.tone(5));
        forgets("no tone", false, x -> x.tone(NONE));
        forgets("period", false, x -> x.period(0, 5));
        forgets("pedal", false, x -> x.pedal(0, 1, 0));
        forgets("no pedal", false, x -> x.pedal(NONE, 0, 0));
        forgets("taking the image", false, x -> x.image(true));
        forgets("feed", false, x -> x.feed(0, 0, 0, 0, 0));
        forgets("end", false, x -> x.end(0));
    }

    static void p35WhatIsToldMeanwhileIsNotUndone() {
        WeepingPiano x = busy();
        x.end(0);
        Check.tell(x, 0, "weeps 42;");
        Check.tell(x, 3, "");
        x.tone(NONE);
        x.period(3, 99);
        x.pedal(NONE, 0, 0);
        x.undo();
        x.undo();
        due("law", x.of(0, 10), 42);
        due("likeness", x.look(14), 0);
        due("tune", x.tune(2), 0);
        due("period", x.string(3, 1), 99);
        due("pedal", x.mud(0), 0);
    }

    static void p35TheBookGoesBack() {
        WeepingPiano x = new WeepingPiano();
        x.set(5, 0, 99);
        x.act(2, 1);
        x.act(2, 2);
        x.undo();
        due("lines", x.look(9), 1);
        due("no line 1", x.book(1, 0), NONE - 1);
        x.act(2, 3);
        line(x, 0, 0, 4, NONE, 1);
        line(x, 1, 0, 4, NONE, 3);
    }

    // 36: image

    static void p36ThereIsNoneAtFirst() {
        WeepingPiano x = new WeepingPiano();
        x.act(2, 1);
        due("back", x.image(false), false);
        due("it forgets nothing", x.look(15), 1);
        due("again", x.image(false), false);
        due("the line is there", x.look(9), 1);
        due("taken", x.image(true), true);
        due("back", x.image(false), true);
    }

    static void p36MoreThanOnce() {
        WeepingPiano x = new WeepingPiano();
        x.set(5, 0, 100);
        x.image(true);
        for (int i = 0; i < 5; i++) {
            x.act(2, 10 + i);
            x.piece(1, 0, 0);
            due("back", x.image(false), true);
            due("water", x.look(2), 100);
            due("pieces", x.look(0), 0);
            due("lines", x.look(9), 0);
        }
    }

    static void p36TheLatestThatWasTaken() {
        WeepingPiano x = new WeepingPiano();
        x.set(5, 0, 100);
        x.image(true);
        x.set(5, 0, 200);
        due("taken again", x.image(true), true);
        x.set(5, 0, 300);
        x.image(false);
        due("water", x.look(2), 200);
    }

    static void p36NothingCanBeUndoneThen() {
        WeepingPiano x = new WeepingPiano();
        x.set(5, 0, 100);
        x.act(2, 1);
        x.image(true);
        due("taking leaves it", x.look(15), 1);
        x.act(2, 1);
        due("two", x.look(15), 2);
        x.image(false);
        due("none", x.look(15), 0);
        due("undo", x.undo(), false);
        due("water", x.look(2), 99);
        x.act(2, 9);
        due("what is done then can be", x.undo(), true);
        due("water", x.look(2), 99);
    }

    static void p36TheTapeAndTheFaultAreAsTheyAre() {
        WeepingPiano x = new WeepingPiano();
        Check.feed(x, "weeps 1;");
        x.image(true);
        x.end(0);
        x.image(false);
        due("the tape does not come back", x.end(1), false);
        faulty(x, 0, "weeps;", 1, 5);
        Check.feed(x, "damps");
        x.image(false);
        due("fault", x.fault(0), 1);
        due("place", x.fault(1), 5);
        due("six", x.end(6), false);
        due("five", x.end(5), true);
    }

    private static WeepingPiano imaged() {
        WeepingPiano x = undoable();
        Check.tell(x, 3, "piece 0 like 1;");
        x.tone(4);
        x.tone(9);
        x.period(1, 6);
        x.pedal(7, 2, 5);
        x.pedal(8, 2, 6);
        x.pedal(10, 1, 7);
        x.play(0, 1);
        x.image(true);
        return x;
    }

    static void p36AllIsAsItWasAndGoesOn() {
        WeepingPiano x = imaged();
        x.days(3);
        x.piece(9, 9, 9);
        x.player(1, 1);
        for (int what = 0; what < 8; what++) x.set(what, 0, 9);
        for (int k = 0; k < 4; k++) x.text(k);
        Check.tell(x, 3, "piece 2 like 1;");
        x.tone(NONE);
        x.tone(50);
        x.tone(40);
        x.period(1, 2);
        x.pedal(NONE, 0, 0);
        x.pedal(30, 1, 50);
        x.pedal(40, 30, 9);
        x.pedal(59, 30, 60);
        x.image(false);
        WeepingPiano y = imaged();
        y.image(false);
        x.days(1);
        y.days(1);
        List<Integer> got = traits(x);
        List<Integer> want = traits(y);
        for (int t = 0; t < want.size(); t++) due("trait " + t, got.get(t), want.get(t));
        due("like", x.of(0, 5), 2);
        due("mud", x.mud(0) * 100 + x.mud(1), 208);
        due("clash", x.mud(2), 1);
        due("rises", x.tune(2), 2);
    }

    static void p36AFullBookAndAllPlaces() {
        WeepingPiano x = piano(12, 6);
        x.set(5, 0, 999);
        for (int i = 0; i < 150; i++) x.act(2, 1 + i % 2);
        x.image(true);
        for (int i = 0; i < 6; i++) x.undo();
        for (int i = 0; i < 6; i++) x.act(2, 9);
        x.image(false);
        due("lines", x.look(9), 150);
        for (int i = 144; i < 150; i++) line(x, i, 0, 4, NONE, 1 + i % 2);
        due("pieces", x.look(0), 12);
        due("the 13th", x.piece(1, 0, 0), NONE);
        due("the 7th player", x.player(0, 0), NONE);
    }

    static void p36AnImageOfTheFirst() {
        WeepingPiano x = new WeepingPiano();
        x.image(true);
        for (int i = 0; i < 12; i++) x.piece(30, 9, 9);
        for (int i = 0; i < 6; i++) x.player(9, 9);
        for (int k = 0; k < 3; k++) x.play(k, 11);
        x.days(20);
        x.image(false);
        for (int what = 0; what <= 15; what++) due("look(" + what + ")", x.look(what), what == 4 ? 10 : 0);
        due("no piece", x.of(0, 0), NONE);
        due("the first again", x.piece(1, 0, 0), 0);
        due("never played", x.of(0, 3) + x.of(0, 4), 0);
        for (int i = 1; i < 12; i++) x.piece(1, 0, 0);
        due("nor the last", x.of(11, 3) + x.of(11, 4), 0);
        x.player(0, 0);
        due("no tears", x.who(0, 2), 0);
        due("in tune", x.string(0, 0), 0);
    }
}
