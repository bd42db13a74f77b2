/** An instrument that weeps within as it is played; what each call answers is told in DOC.md. */
public final class WeepingPiano {
    public static final int NONE = -1;

    private static final int MOST_PIECES = 12;
    private static final int MOST_PLAYERS = 6;
    private static final int STRINGS = 8;
    private static final int MOST_FLAT = 50;
    private static final int MOST_WATER = 999;
    private static final int MOST_SALT = 9999;
    private static final int LAST_DAY = 9999;
    private static final int MOST_DAYS = 20;
    private static final int MOST_TAPE = 400;
    private static final int MOST_LINES = 16;
    private static final int MOST_ROW = 6;
    private static final int BOOK_LINES = 150;
    private static final int BOOK_WIDTH = 4;
    private static final int MODULUS = 1000000007;
    /* Above every cost and every set of PIECES. */
    private static final int FAR_ABOVE = 1000000;

    /* What a line of THE BOOK tells of. */
    private static final int PLAYED = 0;
    private static final int WAITED = 1;
    private static final int TUNED = 2;
    private static final int EMPTIED = 3;
    private static final int CHILD = 4;

    private final Recital recital = new Recital();
    private final World world = recital.world;
    private final World kept = new World();
    private boolean imageTaken = false;
    private final Past past = new Past();
    private final Reader reader = new Reader();
    private final Music music = new Music();

    public WeepingPiano() {
    }

    public int state(int v) {
        int was = world.stage.draws;
        world.stage.draws = v;
        past.forget();
        return was;
    }

    public int piece(int minutes, int sad, int hard) {
        int number = world.cast.addPiece(minutes, sad, hard);
        if (number != NONE) {
            past.forget();
        }
        return number;
    }

    public int player(int art, int wish) {
        int number = world.cast.addPlayer(art, wish);
        if (number != NONE) {
            past.forget();
        }
        return number;
    }

    public boolean set(int what, int who, int v) {
        boolean told = what <= 3 ? world.cast.change(what, who, v) : world.stage.change(what, who, v);
        if (told) {
            past.forget();
        }
        return told;
    }

    public int play(int player, int piece) {
        if (!world.cast.knows(player, piece)) {
            return NONE;
        }
        past.keep(world.stage);
        recital.wake();
        return recital.perform(player, piece, true);
    }

    public boolean act(int what, int who) {
        Stage stage = world.stage;
        boolean tuning = what == 0 && who >= 0 && who < STRINGS && stage.flat[who] > 0;
        boolean emptying = what == 1 && stage.salt > 0;
        boolean bringing = what == 2 && who >= 1 && who <= 99;
        if (!tuning && !emptying && !bringing) {
            return false;
        }
        past.keep(stage);
        recital.wake();
        if (tuning) {
            recital.tuneString(who);
        } else if (emptying) {
            recital.emptyDrawer();
        } else {
            recital.bringChild(who);
        }
        return true;
    }

    public int days(int n) {
        if (n < 1 || n > MOST_DAYS || world.stage.day + n > LAST_DAY) {
            return NONE;
        }
        recital.wake();
        int pieces = 0;
        for (int i = 0; i < n; i++) {
            past.keep(world.stage);
            pieces += recital.passDay();
        }
        return pieces;
    }

    public int feed(int a, int b, int c, int d, int e) {
        if (!reader.hasRoomFor(20)) {
            return NONE;
        }
        reader.takeNumber(a);
        reader.takeNumber(b);
        reader.takeNumber(c);
        reader.takeNumber(d);
        reader.takeNumber(e);
        return reader.length;
    }

    public boolean end(int n) {
        return reader.cutTo(n);
    }

    public int text(int k) {
        int lines = reader.readScript(k, world.cast);
        Script script = world.script(k);
        if (lines == NONE || script == null) {
            return NONE;
        }
        script.copyFrom(reader.draft);
        if (k == Reader.PROGRAMME || k == Reader.CARE) {
            past.forget();
        }
        return lines;
    }

    public int fault(int what) {
        return what == 0 ? reader.fault : what == 1 ? reader.faultPlace : NONE;
    }

    public int of(int piece, int what) {
        if (!world.cast.hasPiece(piece)) {
            return NONE;
        }
        if (what >= 10 && world.cast.hasPlayer(what - 10)) {
            return recital.askNow(Recital.WEEPS, what - 10, piece, NONE);
        }
        switch (what) {
            case 0: return world.cast.minutes[piece];
            case 1: return world.cast.sad[piece];
            case 2: return world.cast.hard[piece];
            case 3: return world.stage.played[piece];
            case 4: return world.stage.wept[piece];
            case 5: return world.likeOf(piece);
            default: return NONE;
        }
    }

    public int who(int player, int what) {
        if (!world.cast.hasPlayer(player)) {
            return NONE;
        }
        switch (what) {
            case 0: return world.cast.art[player];
            case 1: return world.cast.wish[player];
            case 2: return world.stage.tears[player];
            default: return NONE;
        }
    }

    public int string(int string, int what) {
        if (string < 0 || string >= STRINGS) {
            return NONE;
        }
        return what == 0 ? world.stage.flat[string] : what == 1 ? world.desk.periods[string] : NONE;
    }

    public int damps(int player, int piece, int string) {
        if (!world.cast.knows(player, piece) || string < 0 || string >= STRINGS) {
            return NONE;
        }
        return recital.askNow(Recital.DAMPS, player, piece, string);
    }

    public int settles(int player, int piece) {
        return world.cast.knows(player, piece) ? recital.askNow(Recital.SETTLES, player, piece, NONE) : NONE;
    }

    public int book(int i, int what) {
        if (i < 0 || i >= world.stage.lines || i >= BOOK_LINES || what < 0 || what >= BOOK_WIDTH) {
            return NONE - 1;
        }
        return world.book[i * BOOK_WIDTH + what];
    }

    public int goes(int n, int what) {
        if (n < 1 || n > MOST_DAYS || what < 0 || what > 3) {
            return NONE;
        }
        Stage then = recital.fallAsleep();
        for (int i = 0; i < n; i++) {
            recital.passDay();
        }
        switch (what) {
            case 0: return then.water;
            case 1: return then.salt;
            case 2: return then.flatOfAll();
            default: return then.waiting;
        }
    }

    public int lasts(int player, int pieces, int what) {
        int count = Integer.bitCount(pieces);
        if (!world.cast.hasPlayer(player) || (pieces & ~world.cast.allPieces()) != 0) {
            return NONE;
        }
        if (count < 1 || count > Recital.MOST_ORDERED || what != 0 && (what < 10 || what >= 10 + count)) {
            return NONE;
        }
        int minutes = recital.shortestOf(player, pieces);
        return what == 0 ? minutes : recital.shortest[what - 10];
    }

    public int chords(int a, int b, int what) {
        if (!Music.isChord(a) || what < 0 || what > 4 || what < 2 && !Music.isChord(b)) {
            return NONE;
        }
        switch (what) {
            case 0: return Music.movedTo(a, b);
            case 1: return Music.movedTo(Music.turnedOver(a), b);
            case 2: return Music.heldBy(a, Music.bestHold(a));
            case 3: return Music.bestHold(a);
            default: return Music.spanOf(a);
        }
    }

    public int tone(int v) {
        return world.desk.addTone(v);
    }

    public int tune(int what) {
        Desk desk = world.desk;
        switch (what) {
            case 0: return desk.twiceLength();
            case 1: return desk.twicePlace();
            case 2: return desk.longestRise();
            case 3: return desk.fingersCost();
            default: return what >= 10 && what - 10 < desk.tones ? desk.fingerOf(what - 10) : NONE;
        }
    }

    public int canon(int d, int h, int what) {
        if (d < 1 || d > 15 || h < 0 || h > 12 || what < 0 || what > 1) {
            return NONE;
        }
        return what == 0 ? Math.max(0, world.desk.tones - d) : world.desk.sweetPlaces(d, h);
    }

    public int bar(int n, int lengths, int what) {
        if (n < 1 || n > Music.MOST_BEATS || lengths < 1 || lengths > 255 || what < 0 || what > 1) {
            return NONE;
        }
        return music.fillings(n, lengths, what == 1);
    }

    public boolean period(int string, int v) {
        if (string < 0 || string >= STRINGS || v < 1 || v > 99) {
            return false;
        }
        world.desk.periods[string] = v;
        return true;
    }

    public int beats(int s, int t) {
        if (s == NONE) {
            return world.desk.allBeats();
        }
        if (s < 0 || s >= STRINGS || t < 0 || t >= STRINGS) {
            return NONE;
        }
        return (int) Desk.commonMultiple(world.desk.periods[s], world.desk.periods[t]);
    }

    public int pedal(int minute, int lasts, int tone) {
        return world.desk.addHeld(minute, lasts, tone);
    }

    public int mud(int what) {
        switch (what) {
            case 0: return world.desk.soundingAt(world.desk.muddiest());
            case 1: return world.desk.muddiest();
            case 2: return world.desk.clashes();
            default: return NONE;
        }
    }

    public int whose(int v, int what) {
        return v < 1 || v > 999 || what < 0 || what > 2 ? NONE : world.setsThatWept(v, what);
    }

    public int have(int n, int what) {
        if (n < 1 || n > 12 || what != 0 && (what < 10 || !world.cast.hasPiece(what - 10))) {
            return NONE;
        }
        return what == 0 ? world.cast.mostHad(n) : world.cast.holderOf(n, what - 10);
    }

    public int alike(int piece) {
        if (piece == NONE) {
            return world.groups();
        }
        return world.cast.hasPiece(piece) ? world.groupOf(piece) : NONE;
    }

    public int pages(int n, int a, int b, int what) {
        if (n < 1 || n > 60 || a < 1 || a > 9 || b < 1 || b > 9 || what < 0 || what > 1) {
            return NONE;
        }
        return Music.pagesTurnedBy(n, a, b, what == 0 ? 1 : 0);
    }

    public int game(int what) {
        int string = world.stage.goodString();
        if (string == NONE || what < 0 || what > 1) {
            return NONE;
        }
        return what == 0 ? string : world.stage.goodTake(string);
    }

    public boolean undo() {
        return past.goBack(world.stage);
    }

    public boolean image(boolean taken) {
        if (taken) {
            kept.copyFrom(world);
            imageTaken = true;
            return true;
        }
        if (!imageTaken) {
            return false;
        }
        world.copyFrom(kept);
        past.forget();
        return true;
    }

    public int look(int what) {
        Stage stage = world.stage;
        switch (what) {
            case 0: return world.cast.pieces;
            case 1: return world.cast.players;
            case 2: return stage.water;
            case 3: return stage.salt;
            case 4: return stage.dry;
            case 5: return stage.fire;
            case 6: return stage.playing;
            case 7: return stage.waiting;
            case 8: return stage.day;
            case 9: return stage.lines;
            case 10: return stage.draws;
            case 11: return world.law.lines;
            case 12: return world.programme.lines;
            case 13: return world.care.lines;
            case 14: return world.likeness.lines;
            case 15: return past.count;
            default: return NONE;
        }
    }

    /** What playing, days and hands change: undo puts back all of this, and nothing else. */
    private static final class Stage {
        final int[] played = new int[MOST_PIECES];
        final int[] wept = new int[MOST_PIECES];
        final int[] tears = new int[MOST_PLAYERS];
        final int[] flat = new int[STRINGS];
        int water = 0;
        int salt = 0;
        int dry = 10;
        int fire = 0;
        int playing = 0;
        int waiting = 0;
        int day = 0;
        int draws = 0;
        int lines = 0;

        void copyFrom(Stage other) {
            System.arraycopy(other.played, 0, played, 0, MOST_PIECES);
            System.arraycopy(other.wept, 0, wept, 0, MOST_PIECES);
            System.arraycopy(other.tears, 0, tears, 0, MOST_PLAYERS);
            System.arraycopy(other.flat, 0, flat, 0, STRINGS);
            water = other.water;
            salt = other.salt;
            dry = other.dry;
            fire = other.fire;
            playing = other.playing;
            waiting = other.waiting;
            day = other.day;
            draws = other.draws;
            lines = other.lines;
        }

        boolean change(int what, int who, int v) {
            if (v < 0) {
                return false;
            }
            if (what == 4 && who >= 0 && who < STRINGS && v <= MOST_FLAT) {
                flat[who] = v;
                return true;
            }
            if (what == 5 && v <= MOST_WATER) {
                water = v;
                return true;
            }
            if (what == 6 && v <= 99) {
                dry = v;
                return true;
            }
            if (what == 7 && v <= 9) {
                fire = v;
                return true;
            }
            return false;
        }

        int drawBelow(int bound) {
            draws = 1664525 * draws + 1013904223;
            return bound > 0 ? (draws >>> 8) % bound : 0;
        }

        void addWater(int more) {
            water = Math.min(MOST_WATER, water + more);
        }

        /** Water that dries leaves a quarter of itself as salt. */
        void dryUp(int went) {
            water -= went;
            salt = Math.min(MOST_SALT, salt + went / 4);
        }

        void flatten(int string) {
            if (string >= 0 && string < STRINGS) {
                flat[string] = Math.min(MOST_FLAT, flat[string] + 1);
            }
        }

        int flatOfAll() {
            int sum = 0;
            for (int string = 0; string < STRINGS; string++) {
                sum += flat[string];
            }
            return sum;
        }

        /**
         * What the game's strings are worth together. Taking 1, 2 or 4 leads to each rest modulo 3
         * but the one that was, so a string alone is worth its FLAT modulo 3.
         */
        private int worthOfAll() {
            int worth = 0;
            for (int string = 0; string < STRINGS; string++) {
                worth ^= flat[string] % 3;
            }
            return worth;
        }

        int goodString() {
            if (worthOfAll() == 0) {
                return NONE;
            }
            for (int string = 0; string < STRINGS; string++) {
                if (goodTake(string) != NONE) {
                    return string;
                }
            }
            return NONE;
        }

        /** The least that may be taken of a string so that who is next loses. */
        int goodTake(int string) {
            if (string < 0 || string >= STRINGS) {
                return NONE;
            }
            int wanted = worthOfAll() ^ (flat[string] % 3);
            for (int take = 1; take <= 4; take *= 2) {
                if (take <= flat[string] && (flat[string] - take) % 3 == wanted) {
                    return take;
                }
            }
            return NONE;
        }
    }

    /** The PIECES and the PLAYERS as they were told. */
    private static final class Cast {
        final int[] minutes = new int[MOST_PIECES];
        final int[] sad = new int[MOST_PIECES];
        final int[] hard = new int[MOST_PIECES];
        final int[] art = new int[MOST_PLAYERS];
        final int[] wish = new int[MOST_PLAYERS];
        private final int[] room = new int[MOST_PLAYERS];
        int pieces = 0;
        int players = 0;

        void copyFrom(Cast other) {
            System.arraycopy(other.minutes, 0, minutes, 0, MOST_PIECES);
            System.arraycopy(other.sad, 0, sad, 0, MOST_PIECES);
            System.arraycopy(other.hard, 0, hard, 0, MOST_PIECES);
            System.arraycopy(other.art, 0, art, 0, MOST_PLAYERS);
            System.arraycopy(other.wish, 0, wish, 0, MOST_PLAYERS);
            pieces = other.pieces;
            players = other.players;
        }

        static boolean isGrade(int v) {
            return v >= 0 && v <= 9;
        }

        boolean hasPiece(int piece) {
            return piece >= 0 && piece < pieces && piece < MOST_PIECES;
        }

        boolean hasPlayer(int player) {
            return player >= 0 && player < players && player < MOST_PLAYERS;
        }

        boolean knows(int player, int piece) {
            return hasPlayer(player) && hasPiece(piece);
        }

        int allPieces() {
            return (1 << pieces) - 1;
        }

        int addPiece(int itsMinutes, int itsSad, int itsHard) {
            if (itsMinutes < 1 || itsMinutes > 30 || !isGrade(itsSad) || !isGrade(itsHard) || pieces >= MOST_PIECES) {
                return NONE;
            }
            minutes[pieces] = itsMinutes;
            sad[pieces] = itsSad;
            hard[pieces] = itsHard;
            pieces++;
            return pieces - 1;
        }

        int addPlayer(int itsArt, int itsWish) {
            if (!isGrade(itsArt) || !isGrade(itsWish) || players >= MOST_PLAYERS) {
                return NONE;
            }
            art[players] = itsArt;
            wish[players] = itsWish;
            players++;
            return players - 1;
        }

        boolean change(int what, int who, int v) {
            boolean there = what == 0 || what == 1 ? hasPiece(who) : (what == 2 || what == 3) && hasPlayer(who);
            if (!there || !isGrade(v)) {
                return false;
            }
            switch (what) {
                case 0: sad[who] = v; break;
                case 1: hard[who] = v; break;
                case 2: art[who] = v; break;
                default: wish[who] = v; break;
            }
            return true;
        }

        private void giveRoom(int n) {
            for (int player = 0; player < MOST_PLAYERS; player++) {
                room[player] = n;
            }
        }

        int mostHad(int n) {
            giveRoom(n);
            return mostHadFrom(0);
        }

        /** The most PIECES from one on that find room: the hardest first, since room for those is room for all. */
        private int mostHadFrom(int first) {
            int free = 0;
            int had = 0;
            for (int grade = 9; grade >= 0; grade--) {
                for (int player = 0; player < players; player++) {
                    free += art[player] == grade ? room[player] : 0;
                }
                int wanting = 0;
                for (int piece = first; piece < pieces; piece++) {
                    wanting += hard[piece] == grade ? 1 : 0;
                }
                int taken = Math.min(free, wanting);
                free -= taken;
                had += taken;
            }
            return had;
        }

        /** Gives PIECE by PIECE to the first PLAYER with whom the rest still comes to the most. */
        int holderOf(int n, int wanted) {
            giveRoom(n);
            int left = mostHadFrom(0);
            int holder = NONE;
            for (int piece = 0; piece <= wanted && piece < pieces; piece++) {
                holder = firstHolder(piece, left);
                left -= holder == NONE ? 0 : 1;
            }
            return holder;
        }

        private int firstHolder(int piece, int left) {
            for (int player = 0; player < players; player++) {
                if (room[player] > 0 && art[player] >= hard[piece]) {
                    room[player]--;
                    if (1 + mostHadFrom(piece + 1) == left) {
                        return player;
                    }
                    room[player]++;
                }
            }
            return NONE;
        }
    }

    /** A TEXT as rows of numbers, and the code of THE LAW, in which parts stand ahead of what joins them. */
    private static final class Script {
        static final int WIDTH = 3 + MOST_ROW;

        final int[] cells = new int[MOST_LINES * WIDTH];
        final int[] code;
        int lines = 0;
        int used = 0;

        Script(int codeLength) {
            code = new int[Math.max(0, codeLength)];
        }

        void copyFrom(Script other) {
            System.arraycopy(other.cells, 0, cells, 0, cells.length);
            used = Math.min(Math.min(other.used, other.code.length), code.length);
            System.arraycopy(other.code, 0, code, 0, used);
            lines = other.lines;
        }

        void clear() {
            lines = 0;
            used = 0;
        }

        int cell(int line, int column) {
            int at = line * WIDTH + column;
            return at >= 0 && at < cells.length ? cells[at] : 0;
        }

        /** Writes into the line that is being read, which counts as a line only later. */
        void write(int column, int v) {
            int at = lines * WIDTH + column;
            if (at >= 0 && at < cells.length) {
                cells[at] = v;
            }
        }

        void emit(int op, int v) {
            if (used < code.length) {
                code[used] = v * 16 + op;
                used++;
            }
        }
    }

    /** What is told for thought alone (TUNE, BEATS, PEDAL), and what is thought of it. */
    private static final class Desk {
        static final int MOST_TONES = 16;
        static final int HIGHEST_TONE = 60;
        static final int MOST_HELD = 9;
        static final int PEDAL_MINUTES = 89;
        static final int FINGERS = 5;

        final int[] tune = new int[MOST_TONES];
        final int[] periods = {1, 1, 1, 1, 1, 1, 1, 1};
        final int[] starts = new int[MOST_HELD];
        final int[] ends = new int[MOST_HELD];
        final int[] held = new int[MOST_HELD];
        int tones = 0;
        int helds = 0;
        private final int[] costs = new int[MOST_TONES * FINGERS];

        void copyFrom(Desk other) {
            System.arraycopy(other.tune, 0, tune, 0, MOST_TONES);
            System.arraycopy(other.periods, 0, periods, 0, STRINGS);
            System.arraycopy(other.starts, 0, starts, 0, MOST_HELD);
            System.arraycopy(other.ends, 0, ends, 0, MOST_HELD);
            System.arraycopy(other.held, 0, held, 0, MOST_HELD);
            tones = other.tones;
            helds = other.helds;
        }

        int addTone(int v) {
            if (v == NONE) {
                tones = 0;
                return 0;
            }
            if (v < 0 || v > HIGHEST_TONE || tones >= MOST_TONES) {
                return NONE;
            }
            tune[tones] = v;
            tones++;
            return tones;
        }

        /** How many tones from i and from j on go alike, if moved, too. */
        private int goAlike(int i, int j) {
            int length = 0;
            while (j + length < tones && tune[i + length] - tune[i] == tune[j + length] - tune[j]) {
                length++;
            }
            return length;
        }

        int twiceLength() {
            int longest = 1;
            for (int i = 0; i < tones; i++) {
                for (int j = i + 1; j < tones; j++) {
                    longest = Math.max(longest, goAlike(i, j));
                }
            }
            return longest > 1 ? longest : 0;
        }

        int twicePlace() {
            int longest = 1;
            int place = NONE;
            for (int i = 0; i < tones; i++) {
                for (int j = i + 1; j < tones; j++) {
                    int length = goAlike(i, j);
                    if (length > longest) {
                        longest = length;
                        place = i;
                    }
                }
            }
            return place;
        }

        int longestRise() {
            int longest = 0;
            int rise = 0;
            for (int i = 0; i < tones; i++) {
                rise = i > 0 && tune[i] > tune[i - 1] ? rise + 1 : 1;
                longest = Math.max(longest, rise);
            }
            return longest;
        }

        /** In how many places both voices of a canon sound well together. */
        int sweetPlaces(int later, int higher) {
            int sweet = 0;
            for (int i = Math.max(0, later); i < tones; i++) {
                int apart = Math.abs(tune[i] - tune[i - later] - higher) % 12;
                if (apart == 0 || apart == 3 || apart == 4 || apart >= 7 && apart <= 9) {
                    sweet++;
                }
            }
            return sweet;
        }

        /** The cost from tone i (not the last one) under finger f to the next one under finger g. */
        private int stepCost(int i, int f, int g) {
            int step = tune[i + 1] - tune[i];
            int cost = Math.abs(step - 2 * (g - f));
            return f == g && step != 0 ? cost + 9 : cost;
        }

        /** The least cost from tone i under finger f to the end; later tones are reckoned already. */
        private int costFrom(int i, int f) {
            if (i + 1 >= tones) {
                return 0;
            }
            int least = FAR_ABOVE;
            for (int g = 0; g < FINGERS; g++) {
                least = Math.min(least, stepCost(i, f, g) + costs[(i + 1) * FINGERS + g]);
            }
            return least;
        }

        private void reckonFingers() {
            for (int i = tones - 1; i >= 0; i--) {
                for (int f = 0; f < FINGERS; f++) {
                    costs[i * FINGERS + f] = costFrom(i, f);
                }
            }
        }

        int fingersCost() {
            if (tones == 0) {
                return 0;
            }
            reckonFingers();
            return costs[cheapestFirst()];
        }

        private int cheapestFirst() {
            int best = 0;
            for (int f = 1; f < FINGERS; f++) {
                if (costs[f] < costs[best]) {
                    best = f;
                }
            }
            return best;
        }

        int fingerOf(int wanted) {
            reckonFingers();
            int finger = cheapestFirst();
            for (int i = 0; i < wanted && i + 1 < tones; i++) {
                int from = finger;
                int g = 0;
                while (g < FINGERS - 1
                        && stepCost(i, from, g) + costs[(i + 1) * FINGERS + g] != costs[i * FINGERS + from]) {
                    g++;
                }
                finger = g;
            }
            return finger + 1;
        }

        static long commonMultiple(long a, long b) {
            long divisor = a;
            long rest = b;
            for (int i = 0; i < 100 && rest > 0; i++) {
                long next = divisor % rest;
                divisor = rest;
                rest = next;
            }
            return divisor > 0 ? a / divisor * b : 0;
        }

        /** Eight periods of two digits: their common multiple stays below 99 to the 8th, far inside a long. */
        int allBeats() {
            long all = 1;
            for (int string = 0; string < STRINGS; string++) {
                all = commonMultiple(all, periods[string]);
            }
            return (int) (all % MODULUS);
        }

        int addHeld(int minute, int lasting, int itsTone) {
            if (minute == NONE) {
                helds = 0;
                return 0;
            }
            if (minute < 0 || minute > 59 || lasting < 1 || lasting > 30) {
                return NONE;
            }
            if (itsTone < 0 || itsTone > HIGHEST_TONE || helds >= MOST_HELD) {
                return NONE;
            }
            starts[helds] = minute;
            ends[helds] = minute + lasting;
            held[helds] = itsTone;
            helds++;
            return helds;
        }

        int soundingAt(int minute) {
            int sounding = 0;
            for (int i = 0; i < helds; i++) {
                if (starts[i] <= minute && minute < ends[i]) {
                    sounding++;
                }
            }
            return sounding;
        }

        int muddiest() {
            int best = 0;
            int most = 0;
            for (int minute = 0; minute < PEDAL_MINUTES; minute++) {
                int sounding = soundingAt(minute);
                if (sounding > most) {
                    most = sounding;
                    best = minute;
                }
            }
            return best;
        }

        int clashes() {
            int couples = 0;
            for (int i = 0; i < helds; i++) {
                for (int j = i + 1; j < helds; j++) {
                    boolean together = starts[i] < ends[j] && starts[j] < ends[i];
                    int apart = Math.abs(held[i] - held[j]) % 12;
                    if (together && (apart == 1 || apart == 2 || apart == 10 || apart == 11)) {
                        couples++;
                    }
                }
            }
            return couples;
        }
    }

    /** All that is and was told, but the TAPE and what can be undone: what THE IMAGE holds. */
    private static final class World {
        final Stage stage = new Stage();
        final Cast cast = new Cast();
        final Script law = new Script(MOST_TAPE);
        final Script programme = new Script(0);
        final Script care = new Script(0);
        final Script likeness = new Script(0);
        final Desk desk = new Desk();
        final int[] book = new int[BOOK_LINES * BOOK_WIDTH];

        void copyFrom(World other) {
            stage.copyFrom(other.stage);
            cast.copyFrom(other.cast);
            law.copyFrom(other.law);
            programme.copyFrom(other.programme);
            care.copyFrom(other.care);
            likeness.copyFrom(other.likeness);
            desk.copyFrom(other.desk);
            System.arraycopy(other.book, 0, book, 0, book.length);
        }

        Script script(int k) {
            switch (k) {
                case Reader.LAW: return law;
                case Reader.PROGRAMME: return programme;
                case Reader.CARE: return care;
                case Reader.LIKENESS: return likeness;
                default: return null;
            }
        }

        /** The number of lines belongs to the stage, so that undo shortens the book. */
        void note(int what, int which, int much) {
            int at = stage.lines * BOOK_WIDTH;
            if (at >= 0 && at + BOOK_WIDTH <= book.length) {
                book[at] = stage.day;
                book[at + 1] = what;
                book[at + 2] = which;
                book[at + 3] = much;
                stage.lines++;
            }
        }

        /** Goes through all sets of PIECES so that each differs from the one ahead by one PIECE. */
        int setsThatWept(int v, int what) {
            int count = 0;
            int least = FAR_ABOVE;
            int inAll = cast.allPieces();
            int set = 0;
            int sum = 0;
            for (int i = 1; i <= cast.allPieces(); i++) {
                int piece = Math.min(MOST_PIECES - 1, Integer.bitCount((i & -i) - 1));
                set ^= 1 << piece;
                sum += ((set >> piece) & 1) != 0 ? stage.wept[piece] : -stage.wept[piece];
                if (sum == v) {
                    count++;
                    least = Math.min(least, set);
                    inAll &= set;
                }
            }
            if (what == 0) {
                return count;
            }
            return what == 1 ? (count > 0 ? least : NONE) : (count > 0 ? inAll : 0);
        }

        int likeOf(int piece) {
            int set = 0;
            for (int line = 0; line < likeness.lines; line++) {
                int a = likeness.cell(line, 0);
                int b = likeness.cell(line, 1);
                set |= a == piece ? 1 << b : b == piece ? 1 << a : 0;
            }
            return set;
        }

        /** Eleven rounds reach the last of twelve PIECES even if each is like the next alone. */
        int groupOf(int piece) {
            int group = 1 << piece;
            for (int round = 1; round < MOST_PIECES; round++) {
                for (int line = 0; line < likeness.lines; line++) {
                    int couple = 1 << likeness.cell(line, 0) | 1 << likeness.cell(line, 1);
                    group |= (group & couple) != 0 ? couple : 0;
                }
            }
            return group;
        }

        /** A group is counted at its first PIECE. */
        int groups() {
            int count = 0;
            for (int piece = 0; piece < cast.pieces; piece++) {
                int ahead = (1 << piece) - 1;
                if ((groupOf(piece) & ahead) == 0) {
                    count++;
                }
            }
            return count;
        }
    }

    /** The latest stages that can be gone back to, in a ring. */
    private static final class Past {
        static final int DEPTH = 6;

        private final Stage[] stages = new Stage[DEPTH];
        private int first = 0;
        int count = 0;

        Past() {
            for (int i = 0; i < DEPTH; i++) {
                stages[i] = new Stage();
            }
        }

        void keep(Stage stage) {
            Stage slot = stages[(first + count) % DEPTH];
            if (slot != null) {
                slot.copyFrom(stage);
            }
            if (count < DEPTH) {
                count++;
            } else {
                first = (first + 1) % DEPTH;
            }
        }

        boolean goBack(Stage stage) {
            if (count == 0) {
                return false;
            }
            count--;
            Stage slot = stages[(first + count) % DEPTH];
            if (slot != null) {
                stage.copyFrom(slot);
            }
            return true;
        }

        void forget() {
            count = 0;
        }
    }

    /** The TAPE, and how it is read as a TEXT: token by token, up to the first FAULT. */
    private static final class Reader {
        static final int LAW = 0;
        static final int PROGRAMME = 1;
        static final int CARE = 2;
        static final int LIKENESS = 3;

        /* The KEYWORDS of all TEXTS, each ended by a blank; a token's kind is the place in this row. */
        static final String WORDS = "weeps damps settles when or and not sad hard art wish water salt flat string fire minute played day on player piece tune empty child dry like ";
        static final int SETTLES = 2;
        static final int WHEN = 3;
        static final int OR = 4;
        static final int AND = 5;
        static final int NOT = 6;
        static final int FIRST_VALUE = 7;
        static final int FIRE = 15;
        static final int LAST_VALUE = 18;
        static final int ON = 19;
        static final int PLAYER = 20;
        static final int PIECE = 21;
        static final int TUNE = 22;
        static final int EMPTY = 23;
        static final int CHILD_WORD = 24;
        static final int DRY = 25;
        static final int LIKE = 26;

        /* Other kinds of tokens; a sign's kind is its byte, and these lie above all signs. */
        static final String SIGNS = ";+-*/()<=>";
        static final int NUMBER = 128;
        static final int END = 129;
        static final int BAD = 130;

        static final int CANNOT_STAND = 1;
        static final int BEYOND = 2;
        static final int TOO_MANY = 3;
        static final int MOST_OPEN = 8;

        private final int[] tape = new int[MOST_TAPE];
        int length = 0;
        private final int[] kinds = new int[MOST_TAPE + 1];
        private final int[] values = new int[MOST_TAPE + 1];
        private final int[] places = new int[MOST_TAPE + 1];
        private int tokens = 0;
        private int at = 0;
        private int open = 0;
        private int pieces = 0;
        private int players = 0;
        final Script draft = new Script(MOST_TAPE);
        int fault = 0;
        int faultPlace = NONE;

        boolean hasRoomFor(int bytes) {
            return length + bytes <= MOST_TAPE;
        }

        void takeNumber(int number) {
            for (int shift = 24; shift >= 0; shift -= 8) {
                if (length < MOST_TAPE) {
                    tape[length] = (number >>> shift) & 255;
                    length++;
                }
            }
        }

        boolean cutTo(int n) {
            if (n < 0 || n > length) {
                return false;
            }
            length = n;
            return true;
        }

        /** Reads the TAPE into the draft and empties it; answers how many lines, or NONE. */
        int readScript(int k, Cast cast) {
            fault = 0;
            faultPlace = NONE;
            pieces = cast.pieces;
            players = cast.players;
            draft.clear();
            splitTape();
            length = 0;
            if (k < LAW || k > LIKENESS) {
                return NONE;
            }
            for (int line = 0; line <= MOST_LINES && fault == 0 && kind() != END; line++) {
                draft.lines = line;
                if (mayBegin(k)) {
                    switch (k) {
                        case LAW: lawLine(); break;
                        case PROGRAMME: programmeLine(); break;
                        case CARE: careLine(); break;
                        default: likenessLine(); break;
                    }
                }
                draft.lines = line + 1;
            }
            return fault == 0 ? draft.lines : NONE;
        }

        private boolean mayBegin(int k) {
            int kind = kind();
            boolean right = k == LAW ? kind <= SETTLES : k == LIKENESS ? kind == PIECE : kind == ON;
            if (!right) {
                return blame(CANNOT_STAND);
            }
            return draft.lines < MOST_LINES || blame(TOO_MANY);
        }

        private boolean lawLine() {
            draft.write(0, kind());
            step();
            draft.write(1, draft.used);
            if (!expression()) {
                return false;
            }
            draft.write(2, draft.used);
            if (kind() == WHEN) {
                step();
                if (!condition()) {
                    return false;
                }
            }
            draft.write(3, draft.used);
            return pass(';');
        }

        /** B: what stands around 'and' is joined at once, what stands around 'or' waits until that is done. */
        private boolean condition() {
            boolean waiting = false;
            boolean right = single();
            for (int n = 0; n < MOST_TAPE && right && (kind() == AND || kind() == OR); n++) {
                boolean either = kind() == OR;
                if (either && waiting) {
                    draft.emit(Recital.OP_OR, 0);
                }
                waiting = waiting || either;
                step();
                right = single();
                if (!either) {
                    draft.emit(Recital.OP_AND, 0);
                }
            }
            if (waiting) {
                draft.emit(Recital.OP_OR, 0);
            }
            return right;
        }

        /** C. */
        private boolean single() {
            if (kind() == NOT || kind() == '(') {
                return enclosed(kind());
            }
            if (!expression()) {
                return false;
            }
            int sign = kind();
            if (sign != '<' && sign != '=' && sign != '>') {
                return blame(CANNOT_STAND);
            }
            step();
            if (!expression()) {
                return false;
            }
            draft.emit(sign == '<' ? Recital.OP_BELOW : sign == '=' ? Recital.OP_SAME : Recital.OP_ABOVE, 0);
            return true;
        }

        /** What is behind 'not' or '(': it goes into itself no deeper than MOST_OPEN. */
        private boolean enclosed(int by) {
            if (open >= MOST_OPEN) {
                return blame(TOO_MANY);
            }
            open++;
            step();
            boolean right = by == NOT ? single() : condition() && pass(')');
            open--;
            if (by == NOT) {
                draft.emit(Recital.OP_NOT, 0);
            }
            return right;
        }

        /** E: a sum or difference waits until the product behind it is done. */
        private boolean expression() {
            int waiting = NONE;
            boolean right = unit();
            for (int n = 0; n < MOST_TAPE && right && isReckoning(kind()); n++) {
                int sign = kind();
                step();
                if (sign == '/') {
                    right = part();
                } else if (sign == '*') {
                    right = unit();
                    draft.emit(Recital.OP_TIMES, 0);
                } else {
                    if (waiting != NONE) {
                        draft.emit(waiting, 0);
                    }
                    waiting = sign == '+' ? Recital.OP_PLUS : Recital.OP_MINUS;
                    right = unit();
                }
            }
            if (waiting != NONE) {
                draft.emit(waiting, 0);
            }
            return right;
        }

        private static boolean isReckoning(int kind) {
            return kind == '*' || kind == '/' || kind == '+' || kind == '-';
        }

        private boolean unit() {
            int kind = kind();
            if (kind == NUMBER) {
                draft.emit(Recital.OP_NUMBER, values[at]);
            } else if (kind >= FIRST_VALUE && kind <= LAST_VALUE) {
                draft.emit(Recital.OP_VALUE, kind - FIRST_VALUE);
            } else {
                return blame(CANNOT_STAND);
            }
            step();
            return true;
        }

        private boolean part() {
            if (kind() != NUMBER) {
                return blame(CANNOT_STAND);
            }
            if (values[at] == 0) {
                return blame(BEYOND);
            }
            draft.emit(Recital.OP_PART, values[at]);
            step();
            return true;
        }

        private boolean programmeLine() {
            return pass(ON) && number(0, 0, 999) && pass(PLAYER) && number(1, 0, players - 1)
                    && pass(PIECE) && row() && pass(';');
        }

        private boolean row() {
            int count = 0;
            boolean right = true;
            while (right && count <= MOST_ROW && (count == 0 || kind() == NUMBER)) {
                if (count == MOST_ROW && values[at] < pieces) {
                    return blame(TOO_MANY);
                }
                right = number(3 + count, 0, pieces - 1);
                count++;
            }
            draft.write(2, count);
            return right;
        }

        private boolean careLine() {
            if (!pass(ON) || !number(0, 0, 999)) {
                return false;
            }
            int kind = kind();
            draft.write(1, kind);
            if (kind < TUNE && kind != FIRE || kind > DRY) {
                return blame(CANNOT_STAND);
            }
            step();
            boolean right = true;
            switch (kind) {
                case TUNE: right = number(2, 0, STRINGS - 1); break;
                case CHILD_WORD: right = number(2, 1, 99); break;
                case FIRE: right = number(2, 0, 9); break;
                case DRY: right = number(2, 0, 99); break;
                default: break;
            }
            return right && pass(';');
        }

        private boolean likenessLine() {
            if (!pass(PIECE) || !number(0, 0, pieces - 1) || !pass(LIKE)) {
                return false;
            }
            if (kind() == NUMBER && values[at] == draft.cell(draft.lines, 0)) {
                return blame(BEYOND);
            }
            return number(1, 0, pieces - 1) && pass(';');
        }

        /** Takes a NUMBER within bounds into a column of the line. */
        private boolean number(int column, int low, int high) {
            if (kind() != NUMBER) {
                return blame(CANNOT_STAND);
            }
            if (values[at] < low || values[at] > high) {
                return blame(BEYOND);
            }
            draft.write(column, values[at]);
            step();
            return true;
        }

        private boolean pass(int kind) {
            if (kind() != kind) {
                return blame(CANNOT_STAND);
            }
            step();
            return true;
        }

        private int kind() {
            return kinds[at];
        }

        /** The last token is the END, and nothing goes past it. */
        private void step() {
            if (at < tokens - 1) {
                at++;
            }
        }

        private boolean blame(int which) {
            fault = which;
            faultPlace = places[at];
            return false;
        }

        private void splitTape() {
            tokens = 0;
            at = 0;
            open = 0;
            int from = 0;
            while (from < length) {
                int to = from + 1;
                int sign = tape[from];
                if (isLetter(sign)) {
                    to = endOfLetters(from);
                    addToken(wordKind(from, to), 0, from);
                } else if (isDigit(sign)) {
                    to = endOfDigits(from);
                    addToken(to - from <= 4 ? NUMBER : BAD, valueOf(from, to), from);
                } else if (sign != ' ' && sign != '\n') {
                    addToken(SIGNS.indexOf((char) sign) >= 0 ? sign : BAD, 0, from);
                }
                from = Math.max(from + 1, to);
            }
            addToken(END, 0, length);
        }

        private void addToken(int kind, int v, int place) {
            if (tokens < kinds.length) {
                kinds[tokens] = kind;
                values[tokens] = v;
                places[tokens] = place;
                tokens++;
            }
        }

        private static boolean isLetter(int sign) {
            return sign >= 'a' && sign <= 'z' || sign >= 'A' && sign <= 'Z';
        }

        private static boolean isDigit(int sign) {
            return sign >= '0' && sign <= '9';
        }

        private int endOfLetters(int from) {
            int to = from;
            while (to < length && isLetter(tape[to])) {
                to++;
            }
            return to;
        }

        private int endOfDigits(int from) {
            int to = from;
            while (to < length && isDigit(tape[to])) {
                to++;
            }
            return to;
        }

        private int valueOf(int from, int to) {
            int v = 0;
            for (int i = from; i < to && i < from + 4; i++) {
                v = v * 10 + tape[i] - '0';
            }
            return v;
        }

        /** Which of the WORDS stands on the TAPE there, or BAD. */
        private int wordKind(int from, int to) {
            int kind = 0;
            int seen = from;
            boolean same = true;
            for (int i = 0; i < WORDS.length(); i++) {
                char sign = WORDS.charAt(i);
                if (sign == ' ') {
                    if (same && seen == to) {
                        return kind;
                    }
                    kind++;
                    seen = from;
                    same = true;
                } else if (same && seen < to && tape[seen] == sign) {
                    seen++;
                } else {
                    same = false;
                }
            }
            return BAD;
        }
    }

    /** How it is played, on the stage or in thought, and what THE LAW tells for it. */
    private static final class Recital {
        static final int WEEPS = 0;
        static final int DAMPS = 1;
        static final int SETTLES = 2;

        static final int OP_NUMBER = 0;
        static final int OP_VALUE = 1;
        static final int OP_PLUS = 2;
        static final int OP_MINUS = 3;
        static final int OP_TIMES = 4;
        static final int OP_PART = 5;
        static final int OP_BELOW = 6;
        static final int OP_SAME = 7;
        static final int OP_ABOVE = 8;
        static final int OP_NOT = 9;
        static final int OP_AND = 10;
        static final int OP_OR = 11;

        /* Places of what THE LAW may ask for, in the order of the Reader's WORDS. */
        static final int SAD = 0;
        static final int HARD = 1;
        static final int ART = 2;
        static final int WISH = 3;
        static final int WATER = 4;
        static final int SALT = 5;
        static final int FLAT = 6;
        static final int STRING = 7;
        static final int FIRE = 8;
        static final int MINUTE = 9;
        static final int TIMES_PLAYED = 10;
        static final int DAY = 11;
        static final int VALUES = 12;

        static final int MOST_WAITING = 60;
        static final int MOST_ORDERED = 5;
        /* Two for each of nine levels of brackets and four for a comparison fit well. */
        static final int MOST_HEAP = 32;

        final World world = new World();
        private final Stage dream = new Stage();
        private Stage stage = world.stage;
        private boolean real = true;
        private final int[] values = new int[VALUES];
        private final int[] heap = new int[MOST_HEAP];
        private final int[] order = new int[MOST_ORDERED];
        final int[] shortest = new int[MOST_ORDERED];
        private int leastWaiting = 0;

        /** From now on what is played happens. */
        void wake() {
            stage = world.stage;
            real = true;
        }

        /** From now on what is played happens in thought, from how things are. */
        Stage fallAsleep() {
            dream.copyFrom(world.stage);
            stage = dream;
            real = false;
            return dream;
        }

        /** Answers how many PIECES were played. */
        int passDay() {
            Script care = world.care;
            for (int line = 0; line < care.lines; line++) {
                if (care.cell(line, 0) == stage.day) {
                    takeCare(care.cell(line, 1), care.cell(line, 2));
                }
            }
            Script programme = world.programme;
            int pieces = 0;
            for (int line = 0; line < programme.lines; line++) {
                if (programme.cell(line, 0) == stage.day) {
                    playLine(line);
                    pieces += programme.cell(line, 2);
                }
            }
            stage.dryUp(stage.water - stage.water / 2);
            stage.fire = Math.max(0, stage.fire - 1);
            stage.day++;
            return pieces;
        }

        private void takeCare(int what, int v) {
            switch (what) {
                case Reader.TUNE: tuneString(v); break;
                case Reader.EMPTY: emptyDrawer(); break;
                case Reader.CHILD_WORD: bringChild(v); break;
                case Reader.FIRE: stage.fire = v; break;
                case Reader.DRY: stage.dry = v; break;
                default: break;
            }
        }

        private void note(int what, int which, int much) {
            if (real) {
                world.note(what, which, much);
            }
        }

        void tuneString(int string) {
            if (string >= 0 && string < STRINGS) {
                note(TUNED, string, stage.flat[string]);
                stage.flat[string] = 0;
            }
        }

        void emptyDrawer() {
            note(EMPTIED, NONE, stage.salt);
            stage.salt = 0;
        }

        void bringChild(int takes) {
            int went = Math.min(takes, stage.water);
            stage.water -= went;
            note(CHILD, NONE, went);
        }

        private void playLine(int line) {
            Script programme = world.programme;
            int count = programme.cell(line, 2);
            for (int i = 0; i < count && i < MOST_ROW; i++) {
                int piece = programme.cell(line, 3 + i);
                perform(programme.cell(line, 1), piece, true);
                if (i + 1 < count) {
                    waitBehind(piece);
                }
            }
        }

        /** Plays a PIECE; answers what it wept. Whether strings are heard changes nothing but them. */
        int perform(int player, int piece, boolean stringsHeard) {
            if (!world.cast.knows(player, piece)) {
                return 0;
            }
            seat(player, piece);
            int minutes = world.cast.minutes[piece];
            int wept = 0;
            for (int minute = 0; minute < minutes; minute++) {
                values[MINUTE] = minute;
                int tears = ask(WEEPS);
                wept += tears;
                stage.addWater(tears);
                if (stringsHeard) {
                    dampStrings();
                }
            }
            stage.wept[piece] += wept;
            stage.tears[player] += wept;
            stage.played[piece]++;
            stage.playing += minutes;
            note(PLAYED, piece, wept);
            return wept;
        }

        private void seat(int player, int piece) {
            values[SAD] = world.cast.sad[piece];
            values[HARD] = world.cast.hard[piece];
            values[ART] = world.cast.art[player];
            values[WISH] = world.cast.wish[player];
            values[FLAT] = 0;
            values[STRING] = 0;
            values[FIRE] = stage.fire;
            values[MINUTE] = 0;
            values[TIMES_PLAYED] = stage.played[piece];
            values[DAY] = stage.day;
        }

        private void dampStrings() {
            for (int string = 0; string < STRINGS; string++) {
                values[STRING] = string;
                values[FLAT] = stage.flat[string];
                int damped = ask(DAMPS);
                boolean falls = real ? damped > 0 && stage.drawBelow(1000) < damped : damped >= 500;
                if (falls) {
                    stage.flatten(string);
                }
            }
            values[STRING] = 0;
            values[FLAT] = 0;
        }

        /** The lid is shut behind a PIECE that was just performed; answers the minutes. */
        private int waitBehind(int piece) {
            if (!world.cast.hasPiece(piece)) {
                return 0;
            }
            values[TIMES_PLAYED] = stage.played[piece];
            int minutes = 0;
            while (minutes < MOST_WAITING && stage.water > stage.dry) {
                values[MINUTE] = minutes;
                stage.dryUp(Math.min(stage.water, ask(SETTLES)));
                minutes++;
            }
            stage.waiting += minutes;
            if (minutes > 0) {
                note(WAITED, piece, minutes);
            }
            return minutes;
        }

        /** What THE LAW tells as things are, at minute 0; the string is NONE where none is asked about. */
        int askNow(int word, int player, int piece, int string) {
            if (!world.cast.knows(player, piece)) {
                return NONE;
            }
            wake();
            seat(player, piece);
            if (string >= 0 && string < STRINGS) {
                values[STRING] = string;
                values[FLAT] = stage.flat[string];
            }
            return ask(word);
        }

        private int ask(int word) {
            values[WATER] = stage.water;
            values[SALT] = stage.salt;
            Script law = world.law;
            boolean told = false;
            int answer = 0;
            for (int line = 0; line < law.lines && !told; line++) {
                if (law.cell(line, 0) == word) {
                    int middle = law.cell(line, 2);
                    int end = law.cell(line, 3);
                    told = middle == end || run(middle, end) != 0;
                    answer = told ? run(law.cell(line, 1), middle) : 0;
                }
            }
            int most = word == DAMPS ? 1000 : 99;
            return Math.max(0, Math.min(most, told ? answer : withoutLaw(word)));
        }

        private int withoutLaw(int word) {
            switch (word) {
                case WEEPS: return values[SAD] + values[ART] - values[WISH];
                case DAMPS: return values[WATER];
                default: return 3 + values[FIRE];
            }
        }

        /** Runs the code of THE LAW from a place to another: what it leaves. */
        private int run(int from, int to) {
            Script law = world.law;
            int top = NONE;
            for (int i = Math.max(0, from); i < to && i < law.used; i++) {
                int op = law.code[i] & 15;
                int v = law.code[i] >> 4;
                if (op <= OP_VALUE) {
                    if (top + 1 >= MOST_HEAP) {
                        return 0;
                    }
                    top++;
                    heap[top] = op == OP_NUMBER ? v : v < VALUES ? values[v] : 0;
                } else if (op == OP_PART || op == OP_NOT) {
                    if (top < 0) {
                        return 0;
                    }
                    heap[top] = op == OP_NOT ? 1 - heap[top] : v != 0 ? heap[top] / v : 0;
                } else {
                    if (top < 1) {
                        return 0;
                    }
                    top--;
                    heap[top] = join(op, heap[top], heap[top + 1]);
                }
            }
            return top == 0 ? heap[0] : 0;
        }

        private static int join(int op, int a, int b) {
            switch (op) {
                case OP_PLUS: return a + b;
                case OP_MINUS: return a - b;
                case OP_TIMES: return a * b;
                case OP_BELOW: return a < b ? 1 : 0;
                case OP_SAME: return a == b ? 1 : 0;
                case OP_ABOVE: return a > b ? 1 : 0;
                case OP_AND: return a & b;
                default: return a | b;
            }
        }

        /** The minutes of the shortest recital of a set; its order is left in 'shortest'. */
        int shortestOf(int player, int pieces) {
            fallAsleep();
            leastWaiting = MOST_ORDERED * MOST_WAITING;
            tryOrders(player, pieces, 0, 0);
            int minutes = leastWaiting;
            for (int piece = 0; piece < MOST_PIECES; piece++) {
                if (((pieces >> piece) & 1) != 0) {
                    minutes += world.cast.minutes[piece];
                }
            }
            return minutes;
        }

        /** Orders come in their row, so one that only ties with an earlier one is left. */
        private void tryOrders(int player, int left, int place, int waited) {
            if (place >= MOST_ORDERED || waited >= leastWaiting) {
                return;
            }
            int water = dream.water;
            int salt = dream.salt;
            for (int piece = 0; piece < MOST_PIECES; piece++) {
                int bit = 1 << piece;
                if ((left & bit) == 0) {
                    continue;
                }
                order[place] = piece;
                if (left == bit) {
                    leastWaiting = waited;
                    System.arraycopy(order, 0, shortest, 0, MOST_ORDERED);
                    return;
                }
                perform(player, piece, false);
                int more = waitBehind(piece);
                tryOrders(player, left & ~bit, place + 1, waited + more);
                dream.played[piece]--;
                dream.water = water;
                dream.salt = salt;
            }
        }
    }

    /** Chords, bars and pages: what is reckoned from the arguments alone. */
    private static final class Music {
        static final int TONES = 12;
        static final int ALL_TONES = 4095;
        static final int MOST_BEATS = 24;
        static final int LENGTHS = 8;

        /* For each number of beats its fillings, and behind that those that end with each length. */
        private final int[] fills = new int[(MOST_BEATS + 1) * (LENGTHS + 1)];

        static boolean isChord(int set) {
            return set > 0 && set <= ALL_TONES;
        }

        static int movedBy(int set, int steps) {
            return (set << steps | set >> (TONES - steps)) & ALL_TONES;
        }

        static int turnedOver(int set) {
            int turned = 0;
            for (int t = 0; t < TONES; t++) {
                if (((set >> t) & 1) != 0) {
                    turned |= 1 << ((TONES - t) % TONES);
                }
            }
            return turned;
        }

        static int movedTo(int a, int b) {
            for (int steps = 0; steps < TONES; steps++) {
                if (movedBy(a, steps) == b) {
                    return steps;
                }
            }
            return NONE;
        }

        static int heldBy(int set, int steps) {
            return Integer.bitCount(set & movedBy(set, steps));
        }

        static int bestHold(int set) {
            int best = 1;
            for (int steps = 2; steps < TONES; steps++) {
                if (heldBy(set, steps) > heldBy(set, best)) {
                    best = steps;
                }
            }
            return best;
        }

        static int spanOf(int set) {
            int least = TONES;
            for (int t = 0; t < TONES; t++) {
                if (((set >> t) & 1) != 0) {
                    least = Math.min(least, highestOf(movedBy(set, (TONES - t) % TONES)));
                }
            }
            return least;
        }

        private static int highestOf(int set) {
            int highest = 0;
            for (int t = 1; t < TONES; t++) {
                highest = ((set >> t) & 1) != 0 ? t : highest;
            }
            return highest;
        }

        int fillings(int n, int lengths, boolean noTwoAlike) {
            int width = LENGTHS + 1;
            fills[0] = 1;
            for (int length = 1; length <= LENGTHS; length++) {
                fills[length] = 0;
            }
            for (int beats = 1; beats <= n && beats <= MOST_BEATS; beats++) {
                int all = 0;
                for (int length = 1; length <= LENGTHS; length++) {
                    int ways = 0;
                    if (length <= beats && ((lengths >> (length - 1)) & 1) != 0) {
                        int ahead = (beats - length) * width;
                        ways = fills[ahead] - (noTwoAlike ? fills[ahead + length] : 0);
                        ways = Math.floorMod(ways, MODULUS);
                    }
                    fills[beats * width + length] = ways;
                    all = (int) (((long) all + ways) % MODULUS);
                }
                fills[beats * width] = all;
            }
            return n >= 0 && n <= MOST_BEATS ? fills[n * width] : 0;
        }

        /** How many of n pages are turned by just so many of the two turners. */
        static int pagesTurnedBy(int n, int a, int b, int turners) {
            if (a < 1 || b < 1) {
                return 0;
            }
            int count = 0;
            for (int page = 1; page <= n; page++) {
                int turned = (page % a == 0 ? 1 : 0) + (page % b == 0 ? 1 : 0);
                if (turned == turners) {
                    count++;
                }
            }
            return count;
        }
    }
}
