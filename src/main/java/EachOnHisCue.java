/**
 * Players who each know their own lines and the last words ahead of each of them, and come in when they hear these.
 *
 * All rows are made once, in the constructors; a call makes no object but the players that a piece brings.
 */
public final class EachOnHisCue {
    private static final int NONE = -9;

    private static final int NOBODY = -1;
    private static final int OTHER = -2;
    private static final int STATE = -3;
    private static final int BELOW = -4;
    private static final int ROOM = -6;
    private static final int REFUSAL_KINDS = 6;
    private static final long LONG_REFUSAL = 4000000000000000000L;

    private static final int MOST_PLAYERS = 5;
    private static final int MOST_LINES = 12;
    private static final int MOST_WORDS = 4;
    private static final int MOST_KIND = 5;
    private static final int MOST_SPEED = 9;
    private static final int MOST_LOST = 99;
    private static final int MOST_LETTERS = 80;
    private static final int MOST_SAID = 60;
    private static final int MOST_ROW = 12;
    private static final int MOST_NIGHTS = 20;
    private static final int MOST_LINES_HOME = 9;
    private static final int MOST_LINES_BOOKS = 7;
    private static final int LOST_AT_FIRST = 10;

    private static final int FAULT_OF_LETTER = -1000;
    private static final int FAULT_OF_STATEMENT = -2000;

    /** Words are kept in one int, the last one lowest, so that last words are compared by one mask. */
    private static final int WORD_BITS = 5;

    private final Play play = new Play();
    private final Play imaged = new Play();
    private boolean hasImage = false;
    private final Evening evening = new Evening();
    private final Net web = evening.web;
    private final Letters letters = new Letters();
    private final int[] told = new int[MOST_ROW];
    private int toldSize = 0;
    private final int[] refusals = new int[REFUSAL_KINDS + 1];

    public EachOnHisCue() {
    }

    public int feed(int letter) {
        if (letter < 0) {
            return refuse(BELOW);
        }
        if (letter > 255 || letters.size >= MOST_LETTERS) {
            return refuse(ROOM);
        }
        letters.add(letter);
        return letters.size;
    }

    public int piece() {
        int answer = letters.firstFault(play);
        if (answer == 0) {
            answer = letters.bringAll(play);
            play.now.forget();
        }
        letters.size = 0;
        return answer;
    }

    public int player(int player, int what) {
        if (!play.hasPlayer(player)) {
            return refuse(NOBODY);
        }
        switch (what) {
            case 0:
                return play.kindOf(player);
            case 1:
                return play.figureOf(player);
            case 2:
                return play.hasteOf(player);
            case 3:
                return play.own[player];
            case 4:
                return bitAt(play.now.dead, player);
            default:
                return refuse(OTHER);
        }
    }

    public int line(int line, int what) {
        if (!play.hasLine(line)) {
            return refuse(NOBODY);
        }
        switch (what) {
            case 0:
                return play.owners[line];
            case 1:
                return play.sizes[line];
            case 2:
                return play.cues[line];
            case 3:
                return bitAt(play.killing, line);
            case 4:
                return bitAt(play.now.said, line);
            default:
                return refuse(OTHER);
        }
    }

    public int cue(int line, int c) {
        if (!play.hasLine(line)) {
            return refuse(NOBODY);
        }
        if (c < 1) {
            return refuse(BELOW);
        }
        if (c > MOST_WORDS) {
            return refuse(ROOM);
        }
        int was = play.cues[line];
        play.cues[line] = c;
        return was;
    }

    public int speed(int player, int v) {
        if (!play.hasPlayer(player)) {
            return refuse(NOBODY);
        }
        if (v < 0) {
            return refuse(BELOW);
        }
        if (v > MOST_SPEED) {
            return refuse(ROOM);
        }
        int was = play.speeds[player];
        play.speeds[player] = v;
        return was;
    }

    public int lose(int v) {
        if (v < 0) {
            return refuse(BELOW);
        }
        if (v > MOST_LOST) {
            return refuse(ROOM);
        }
        int was = play.lost;
        play.lost = v;
        return was;
    }

    public int comes(int player) {
        if (!play.hasPlayer(player)) {
            return refuse(NOBODY);
        }
        web.weave(play, 0);
        return evening.comesWith(play, play.now, player);
    }

    public int say() {
        if (play.lines == 0) {
            return refuse(STATE);
        }
        web.weave(play, 0);
        int next = evening.nextLine(play, play.now, NONE);
        if (next != NONE) {
            play.speak(play.now, next);
        }
        return next;
    }

    public int again() {
        int had = play.now.times;
        play.now.forget();
        return had;
    }

    public int night(int i) {
        if (i < 0) {
            return refuse(BELOW);
        }
        if (play.lines == 0) {
            return refuse(STATE);
        }
        if (i >= MOST_SAID) {
            return NONE;
        }
        web.weave(play, 0);
        int went = evening.go(play, NONE, i + 1);
        return went == i + 1 ? evening.saying.latest : NONE;
    }

    public int goes(int what) {
        if (what < 0 || what > 3) {
            return refuse(OTHER);
        }
        if (play.lines == 0) {
            return refuse(STATE);
        }
        web.weave(play, 0);
        int went = evening.go(play, NONE, MOST_SAID);
        switch (what) {
            case 0:
                return went;
            case 1:
                return evening.saying.leaps;
            case 2:
                return evening.saying.dead;
            default:
                return evening.wentAsWritten(play) ? 1 : 0;
        }
    }

    public int follow(int line) {
        if (!play.hasLine(line)) {
            return refuse(NOBODY);
        }
        web.weaveWithoutSick(play);
        return web.after[line];
    }

    public int net(int what) {
        if (what < 0 || what > 3) {
            return refuse(OTHER);
        }
        if (play.lines == 0) {
            return refuse(STATE);
        }
        web.weaveWithoutSick(play);
        switch (what) {
            case 0:
                return web.reachedFrom(1);
            case 1:
                return web.fewestSteps();
            case 2:
                return web.hasRound() ? 1 : 0;
            default:
                return web.isSure() ? 1 : 0;
        }
    }

    public int mend() {
        if (play.lines == 0) {
            return refuse(STATE);
        }
        int all = 0;
        for (int j = 1; j < play.lines; j++) {
            int more = play.wordsToMend(j);
            if (more == NONE) {
                return NONE;
            }
            all += more;
        }
        return all;
    }

    public int mendOf(int line) {
        if (!play.hasLine(line)) {
            return refuse(NOBODY);
        }
        return play.wordsToMend(line);
    }

    public int prompted() {
        if (play.lines == 0) {
            return refuse(STATE);
        }
        web.weave(play, 0);
        return evening.timesToPrompt(play);
    }

    public long home(int part) {
        if (part < 0 || part > 1) {
            return LONG_REFUSAL - refuse(OTHER);
        }
        if (play.lines == 0) {
            return LONG_REFUSAL - refuse(STATE);
        }
        if (play.lines > MOST_LINES_HOME) {
            return LONG_REFUSAL - refuse(ROOM);
        }
        web.weave(play, 0);
        evening.go(play, NONE, MOST_SAID);
        if (!evening.wentAsWritten(play)) {
            return part;
        }
        int heard = 100 - play.lost;
        int shared = greatestDivisor(heard, 100);
        return power(part == 0 ? heard / shared : 100 / shared, play.lines - 1);
    }

    public int without(int player) {
        if (!play.hasPlayer(player)) {
            return refuse(NOBODY);
        }
        if (play.lines == 0) {
            return refuse(STATE);
        }
        web.weave(play, 0);
        return evening.go(play, player, MOST_SAID);
    }

    public int leastHarm() {
        if (play.lines == 0) {
            return refuse(STATE);
        }
        web.weave(play, 0);
        int best = NONE;
        int most = 0;
        for (int p = 0; p < play.players; p++) {
            int went = evening.go(play, p, MOST_SAID);
            if (went > most) {
                most = went;
                best = p;
            }
        }
        return best;
    }

    public int joke(int line, int word) {
        if (!play.hasLine(line)) {
            return refuse(NOBODY);
        }
        if (word < 0) {
            return refuse(BELOW);
        }
        if (word > 25 || play.sizes[line] >= MOST_WORDS) {
            return refuse(ROOM);
        }
        web.weave(play, 0);
        web.putIn(play, line, word);
        return evening.go(play, NONE, MOST_SAID);
    }

    public int stretched(int more) {
        if (more < 0) {
            return refuse(BELOW);
        }
        if (more > 3) {
            return refuse(ROOM);
        }
        if (play.lines == 0) {
            return refuse(STATE);
        }
        web.weave(play, more);
        return evening.go(play, NONE, MOST_SAID);
    }

    public int parts() {
        // Times on stage that overlap in pairs share a moment, so the fullest moment tells how few actors do.
        int fullest = 0;
        for (int at = 0; at < play.lines; at++) {
            fullest = Math.max(fullest, play.onStage(at));
        }
        return fullest;
    }

    public int books() {
        if (play.lines == 0) {
            return refuse(STATE);
        }
        if (play.lines > MOST_LINES_BOOKS) {
            return refuse(ROOM);
        }
        web.weave(play, 0);
        return web.orders();
    }

    public int book(int k, int i) {
        if (k < 0 || i < 0) {
            return refuse(BELOW);
        }
        if (play.lines == 0) {
            return refuse(STATE);
        }
        if (play.lines > MOST_LINES_BOOKS) {
            return refuse(ROOM);
        }
        web.weave(play, 0);
        if (i >= play.lines || k >= web.orders()) {
            return NONE;
        }
        return web.lineOfOrder(k, i);
    }

    public int row(int line) {
        if (line < 0) {
            return refuse(BELOW);
        }
        if (line >= MOST_LINES || toldSize >= MOST_ROW) {
            return refuse(ROOM);
        }
        told[toldSize] = line;
        toldSize++;
        return toldSize;
    }

    public int judge() {
        if (play.lines == 0) {
            return refuse(STATE);
        }
        web.weave(play, 0);
        return evening.firstOtherThanSaid(play, told, toldSize);
    }

    public int possible() {
        web.weaveWithoutSick(play);
        int place = web.firstThatCannotFollow(told, toldSize);
        toldSize = 0;
        return place;
    }

    public int lot(int n, int z) {
        if (n < 1) {
            return refuse(BELOW);
        }
        if (n > MOST_NIGHTS) {
            return refuse(ROOM);
        }
        if (play.lines == 0) {
            return refuse(STATE);
        }
        web.weave(play, 0);
        evening.seed = z;
        int all = 0;
        for (int k = 0; k < n; k++) {
            all += evening.goByLot(play);
        }
        return all;
    }

    public int image() {
        imaged.take(play);
        hasImage = true;
        return play.lines;
    }

    public int restore() {
        if (!hasImage) {
            return refuse(STATE);
        }
        play.take(imaged);
        return play.lines;
    }

    public int count(int what) {
        switch (what) {
            case 0:
                return play.players;
            case 1:
                return play.lines;
            case 2:
                return play.now.times;
            case 3:
                return play.now.latest;
            case 4:
                return play.allWords();
            case 5:
                return letters.size;
            case 6:
                return toldSize;
            case 7:
                return play.lost;
            default:
                return what >= 11 && what <= 10 + REFUSAL_KINDS ? refusals[what - 10] : NONE;
        }
    }

    private int refuse(int number) {
        int kind = -number;
        if (kind >= 1 && kind <= REFUSAL_KINDS) {
            refusals[kind]++;
        }
        return number;
    }

    private static int bitAt(int bits, int place) {
        return (bits >> place) & 1;
    }

    /** The least number among the bits, NONE if there is no bit. */
    private static int leastOf(int bits) {
        for (int k = 0; k < MOST_LINES; k++) {
            if ((bits >> k & 1) == 1) {
                return k;
            }
        }
        return NONE;
    }

    /** The greatest number among the bits, NONE if there is no bit. */
    private static int greatestOf(int bits) {
        for (int k = MOST_LINES - 1; k >= 0; k--) {
            if ((bits >> k & 1) == 1) {
                return k;
            }
        }
        return NONE;
    }

    private static int greatestDivisor(int a, int b) {
        for (int d = Math.min(a, b); d > 1; d--) {
            if (a % d == 0 && b % d == 0) {
                return d;
            }
        }
        return 1;
    }

    private static long power(int base, int times) {
        long all = 1;
        for (int k = 0; k < times; k++) {
            all *= base;
        }
        return all;
    }

    private static Next playerOf(int kind, int figure) {
        switch (kind) {
            case 1:
                return new Any(figure);
            case 2:
                return new Quick(figure);
            case 3:
                return new Deaf(figure);
            case 4:
                return new Sick(figure);
            case 5:
                return new Keen(figure);
            default:
                return new Next(figure);
        }
    }

    /** A player's kind and figure, which never change: so an image may share him. */
    private static class Next {
        final int figure;

        Next(int figure) {
            this.figure = figure;
        }

        int kind() {
            return 0;
        }

        int hears(int words) {
            return words;
        }

        int haste(int quickness) {
            return quickness;
        }

        /** With which of his own lines he comes in, where those in cued (bits) are cued. */
        int choose(int own, int cued, int said) {
            int next = leastOf(own & ~said);
            return next != NONE && bitAt(cued, next) == 1 ? next : NONE;
        }
    }

    private static class Any extends Next {
        Any(int figure) {
            super(figure);
        }

        int kind() {
            return 1;
        }

        int choose(int own, int cued, int said) {
            return leastOf(own & cued);
        }
    }

    private static final class Quick extends Next {
        Quick(int figure) {
            super(figure);
        }

        int kind() {
            return 2;
        }

        int haste(int quickness) {
            return 2 * quickness + 1;
        }
    }

    private static class Deaf extends Next {
        Deaf(int figure) {
            super(figure);
        }

        int kind() {
            return 3;
        }

        int hears(int words) {
            return Math.min(words, figure);
        }
    }

    private static final class Sick extends Deaf {
        Sick(int figure) {
            super(figure);
        }

        int kind() {
            return 4;
        }

        int choose(int own, int cued, int said) {
            return NONE;
        }
    }

    private static final class Keen extends Any {
        Keen(int figure) {
            super(figure);
        }

        int kind() {
            return 5;
        }

        int choose(int own, int cued, int said) {
            return greatestOf(own & cued);
        }
    }

    /** What has been said of a night, now or in mind. */
    private static final class Saying {
        int said = 0;
        int dead = 0;
        int latest = NONE;
        int times = 0;
        int leaps = 0;

        void forget() {
            said = 0;
            dead = 0;
            latest = NONE;
            times = 0;
            leaps = 0;
        }

        void add(int line, int killed) {
            if (times > 0 && line != latest + 1) {
                leaps++;
            }
            said |= 1 << line;
            dead |= killed;
            latest = line;
            times++;
        }

        void take(Saying other) {
            said = other.said;
            dead = other.dead;
            latest = other.latest;
            times = other.times;
            leaps = other.leaps;
        }
    }

    /** All that an image holds: players, lines, what has been said now, how often a cue is lost. */
    private static final class Play {
        final Next[] cast = new Next[MOST_PLAYERS];
        final int[] speeds = new int[MOST_PLAYERS];
        final int[] own = new int[MOST_PLAYERS];
        int players = 0;
        final int[] owners = new int[MOST_LINES];
        final int[] texts = new int[MOST_LINES];
        final int[] sizes = new int[MOST_LINES];
        final int[] cues = new int[MOST_LINES];
        int killing = 0;
        int lines = 0;
        int lost = LOST_AT_FIRST;
        final Saying now = new Saying();

        boolean hasPlayer(int p) {
            return p >= 0 && p < players;
        }

        boolean hasLine(int i) {
            return i >= 0 && i < lines;
        }

        void addPlayer(Next one, int quickness) {
            if (players < MOST_PLAYERS) {
                cast[players] = one;
                speeds[players] = quickness;
                own[players] = 0;
                players++;
            }
        }

        void addLine(int owner, int text, int size, int cue, boolean kills) {
            if (lines < MOST_LINES && hasPlayer(owner)) {
                owners[lines] = owner;
                texts[lines] = text;
                sizes[lines] = size;
                cues[lines] = cue;
                own[owner] |= 1 << lines;
                if (kills) {
                    killing |= 1 << lines;
                }
                lines++;
            }
        }

        int kindOf(int p) {
            Next one = hasPlayer(p) ? cast[p] : null;
            return one == null ? NONE : one.kind();
        }

        int figureOf(int p) {
            Next one = hasPlayer(p) ? cast[p] : null;
            return one == null ? NONE : one.figure;
        }

        int hasteOf(int p) {
            Next one = hasPlayer(p) ? cast[p] : null;
            return one == null ? NONE : one.haste(speeds[p]);
        }

        /** How many words of a cue so long the player of a line hears. */
        int heardOf(int line, int words) {
            Next one = hasLine(line) && hasPlayer(owners[line]) ? cast[owners[line]] : null;
            return one == null ? words : one.hears(words);
        }

        int chosenBy(int p, int cued, int said) {
            Next one = hasPlayer(p) ? cast[p] : null;
            return one == null ? NONE : one.choose(own[p], cued, said);
        }

        int linesOfSick() {
            int bits = 0;
            for (int p = 0; p < players; p++) {
                if (cast[p] instanceof Sick) {
                    bits |= own[p];
                }
            }
            return bits;
        }

        void speak(Saying saying, int line) {
            if (hasLine(line)) {
                saying.add(line, bitAt(killing, line) << owners[line]);
            }
        }

        /** The lines (bits) cued by these words, if all cues are so many words longer. */
        int cuedBy(int text, int size, int more) {
            int bits = 0;
            for (int j = 1; j < lines; j++) {
                int words = Math.min(cues[j] + more, MOST_WORDS);
                if (endsAsAhead(text, size, j, heardOf(j, words))) {
                    bits |= 1 << j;
                }
            }
            return bits;
        }

        /** Whether these words end as the line ahead of j does, as far as one listens. */
        boolean endsAsAhead(int text, int size, int j, int listened) {
            if (j < 1 || j >= lines) {
                return false;
            }
            int words = Math.min(listened, sizes[j - 1]);
            int mask = (1 << (WORD_BITS * words)) - 1;
            return size >= words && (text & mask) == (texts[j - 1] & mask);
        }

        int wordsToMend(int j) {
            if (j < 1 || j >= lines) {
                return 0;
            }
            // A cue that is longer than the line ahead already counts as all of that line: it grows no more.
            int longest = Math.max(cues[j], sizes[j - 1]);
            for (int words = cues[j]; words <= longest; words++) {
                if (isCuedByAheadAlone(j, words)) {
                    return words - cues[j];
                }
            }
            return NONE;
        }

        boolean isCuedByAheadAlone(int j, int words) {
            for (int i = 0; i < lines; i++) {
                if (i != j - 1 && endsAsAhead(texts[i], sizes[i], j, words)) {
                    return false;
                }
            }
            return true;
        }

        int onStage(int at) {
            int there = 0;
            for (int p = 0; p < players; p++) {
                if (own[p] != 0 && leastOf(own[p]) <= at && greatestOf(own[p]) >= at) {
                    there++;
                }
            }
            return there;
        }

        int allWords() {
            int all = 0;
            for (int i = 0; i < lines; i++) {
                all += sizes[i];
            }
            return all;
        }

        void take(Play other) {
            for (int p = 0; p < MOST_PLAYERS; p++) {
                cast[p] = other.cast[p];
                speeds[p] = other.speeds[p];
                own[p] = other.own[p];
            }
            players = other.players;
            for (int i = 0; i < MOST_LINES; i++) {
                owners[i] = other.owners[i];
                texts[i] = other.texts[i];
                sizes[i] = other.sizes[i];
                cues[i] = other.cues[i];
            }
            killing = other.killing;
            lines = other.lines;
            lost = other.lost;
            now.take(other.now);
        }
    }

    /** Which lines (bits) can come after each line. */
    private static final class Net {
        final int[] after = new int[MOST_LINES];
        int lines = 0;

        void weave(Play play, int more) {
            lines = play.lines;
            for (int i = 0; i < lines; i++) {
                after[i] = play.cuedBy(play.texts[i], play.sizes[i], more);
            }
        }

        void weaveWithoutSick(Play play) {
            weave(play, 0);
            int there = ~play.linesOfSick();
            for (int i = 0; i < lines; i++) {
                after[i] &= there;
            }
        }

        void putIn(Play play, int line, int word) {
            if (line >= 0 && line < lines) {
                int text = (play.texts[line] << WORD_BITS) | word;
                after[line] = play.cuedBy(text, play.sizes[line] + 1, 0);
            }
        }

        int stepFrom(int bits) {
            int to = 0;
            for (int i = 0; i < lines; i++) {
                if (bitAt(bits, i) == 1) {
                    to |= after[i];
                }
            }
            return to;
        }

        int reachedFrom(int bits) {
            int reached = bits;
            for (int k = 0; k < lines; k++) {
                reached |= stepFrom(reached);
            }
            return reached;
        }

        int fewestSteps() {
            int reached = 1;
            for (int steps = 0; steps < lines; steps++) {
                if (bitAt(reached, lines - 1) == 1) {
                    return steps;
                }
                reached |= stepFrom(reached);
            }
            return NONE;
        }

        boolean hasRound() {
            int reached = reachedFrom(1);
            for (int i = 0; i < lines; i++) {
                if (bitAt(reached, i) == 1 && bitAt(reachedFrom(after[i]), i) == 1) {
                    return true;
                }
            }
            return false;
        }

        boolean isSure() {
            for (int i = 0; i < lines; i++) {
                int due = i == lines - 1 ? 0 : 1 << (i + 1);
                if (after[i] != due) {
                    return false;
                }
            }
            return true;
        }

        int orders() {
            return ordersBehind(this, 0, 1, 1);
        }

        /** In how many orders the lines not used yet can come behind this one; depth lines are used. */
        private static int ordersBehind(Net net, int latest, int used, int depth) {
            if (depth >= net.lines || depth >= MOST_LINES_BOOKS) {
                return 1;
            }
            int all = 0;
            int free = net.freeBehind(latest, used);
            for (int j = 1; j < net.lines; j++) {
                if (bitAt(free, j) == 1) {
                    all += ordersBehind(net, j, used | 1 << j, depth + 1);
                }
            }
            return all;
        }

        int freeBehind(int latest, int used) {
            return latest >= 0 && latest < lines ? after[latest] & ~used : 0;
        }

        int lineOfOrder(int k, int i) {
            int latest = 0;
            int used = 1;
            int left = k;
            for (int depth = 1; depth <= i; depth++) {
                int free = freeBehind(latest, used);
                int chosen = NONE;
                for (int j = 1; j < lines && chosen == NONE; j++) {
                    int behind = bitAt(free, j) == 1 ? ordersBehind(this, j, used | 1 << j, depth + 1) : 0;
                    if (left < behind) {
                        chosen = j;
                    } else {
                        left -= behind;
                    }
                }
                if (chosen == NONE) {
                    return NONE;
                }
                latest = chosen;
                used |= 1 << chosen;
            }
            return latest;
        }

        int firstThatCannotFollow(int[] row, int size) {
            for (int k = 0; k < size && k < row.length; k++) {
                boolean can = k == 0 ? row[k] == 0 : canFollow(row[k - 1], row[k]);
                if (!can) {
                    return k;
                }
            }
            return NONE;
        }

        boolean canFollow(int ahead, int line) {
            return ahead >= 0 && ahead < lines && line >= 0 && line < lines && bitAt(after[ahead], line) == 1;
        }
    }

    /** How it goes on: truly, or a night in mind. */
    private static final class Evening {
        final Net web = new Net();
        final Saying saying = new Saying();
        int seed = 0;

        int comesWith(Play play, Saying far, int p) {
            if (!play.hasLine(far.latest) || bitAt(far.dead, p) == 1) {
                return NONE;
            }
            return play.chosenBy(p, web.after[far.latest], far.said);
        }

        /** Which line is said next, with one player missing (NONE: all are there). */
        int nextLine(Play play, Saying far, int missing) {
            if (far.times == 0) {
                return 0;
            }
            int next = NONE;
            int most = -1;
            for (int p = 0; p < play.players; p++) {
                int with = p == missing ? NONE : comesWith(play, far, p);
                if (with != NONE && play.hasteOf(p) > most) {
                    next = with;
                    most = play.hasteOf(p);
                }
            }
            return next;
        }

        /** A night from its beginning, cut off behind so many lines: how many were said. */
        int go(Play play, int missing, int limit) {
            saying.forget();
            for (int k = 0; k < limit; k++) {
                int next = nextLine(play, saying, missing);
                if (next == NONE) {
                    return saying.times;
                }
                play.speak(saying, next);
            }
            return saying.times;
        }

        boolean wentAsWritten(Play play) {
            return saying.times == play.lines && saying.leaps == 0;
        }

        int timesToPrompt(Play play) {
            int all = 0;
            saying.forget();
            for (int k = 0; k < play.lines - 1; k++) {
                play.speak(saying, k);
                if (nextLine(play, saying, NONE) != k + 1) {
                    all++;
                }
            }
            return all;
        }

        int firstOtherThanSaid(Play play, int[] row, int size) {
            saying.forget();
            for (int k = 0; k < size && k < row.length; k++) {
                int next = nextLine(play, saying, NONE);
                if (row[k] != next) {
                    return k;
                }
                play.speak(saying, next);
            }
            return NONE;
        }

        int goByLot(Play play) {
            saying.forget();
            for (int k = 0; k < MOST_SAID; k++) {
                int next = k == 0 ? 0 : drawnLine(play);
                if (next == NONE) {
                    return saying.times;
                }
                play.speak(saying, next);
            }
            return saying.times;
        }

        int drawnLine(Play play) {
            int coming = 0;
            for (int p = 0; p < play.players; p++) {
                if (comesWith(play, saying, p) != NONE) {
                    coming++;
                }
            }
            int left = coming >= 2 ? draw(coming) : 0;
            for (int p = 0; p < play.players; p++) {
                int with = comesWith(play, saying, p);
                if (with != NONE && left == 0) {
                    return with;
                }
                if (with != NONE) {
                    left--;
                }
            }
            return NONE;
        }

        int draw(int below) {
            seed = seed * 1103515245 + 12345;
            return below < 1 ? 0 : (seed & 0x7fffffff) / 65536 % below;
        }
    }

    /** The letters of a piece, and how they are read. */
    private static final class Letters {
        private static final int START = 0;
        private static final int KIND = 1;
        private static final int FIGURE = 2;
        private static final int QUICKNESS = 3;
        private static final int OWNER = 4;
        private static final int FIRST_WORD = 5;
        private static final int LATER_WORD = 6;
        private static final int BEHIND_CUE = 7;
        private static final int END = 8;
        private static final int WRONG = 9;

        final int[] row = new int[MOST_LETTERS];
        int size = 0;

        void add(int letter) {
            if (size < MOST_LETTERS) {
                row[size] = letter;
                size++;
            }
        }

        int at(int place) {
            return place >= 0 && place < size ? row[place] : 0;
        }

        boolean isDigit(int place) {
            return at(place) >= '0' && at(place) <= '9';
        }

        boolean isWord(int place) {
            return at(place) >= 'a' && at(place) <= 'z';
        }

        int digit(int place) {
            return at(place) - '0';
        }

        /** The fault of the letters, 0 if they have none. */
        int firstFault(Play play) {
            int place = firstWrongLetter();
            if (place != NONE) {
                return FAULT_OF_LETTER - place;
            }
            place = firstWrongStatement(play);
            return place == NONE ? 0 : FAULT_OF_STATEMENT - place;
        }

        int firstWrongLetter() {
            int state = START;
            int words = 0;
            for (int k = 0; k < size; k++) {
                state = stateBehind(state, k, words);
                if (state == WRONG) {
                    return k;
                }
                words = state == LATER_WORD ? words + 1 : 0;
            }
            return size > 0 && state == START ? NONE : size;
        }

        int stateBehind(int state, int place, int words) {
            int letter = at(place);
            switch (state) {
                case START:
                    return letter == 'p' ? KIND : letter == 'l' ? OWNER : WRONG;
                case KIND:
                    return isDigit(place) ? FIGURE : WRONG;
                case FIGURE:
                    return isDigit(place) ? QUICKNESS : WRONG;
                case QUICKNESS:
                    return isDigit(place) ? END : WRONG;
                case OWNER:
                    return isDigit(place) ? FIRST_WORD : WRONG;
                case FIRST_WORD:
                    return isWord(place) ? LATER_WORD : WRONG;
                case LATER_WORD:
                    return isDigit(place) ? BEHIND_CUE : isWord(place) && words < MOST_WORDS ? LATER_WORD : WRONG;
                case BEHIND_CUE:
                    return letter == '!' ? END : letter == ';' ? START : WRONG;
                default:
                    return letter == ';' ? START : WRONG;
            }
        }

        /** Only where no letter is wrong. */
        boolean begins(int place) {
            return place == 0 || at(place - 1) == ';';
        }

        int wordsBehind(int place) {
            int words = 0;
            while (words < MOST_WORDS && isWord(place + words)) {
                words++;
            }
            return words;
        }

        /** Only where no letter is wrong. */
        int firstWrongStatement(Play play) {
            int players = play.players;
            int lines = play.lines;
            for (int k = 0; k < size; k++) {
                if (!begins(k)) {
                    continue;
                }
                boolean fits = at(k) == 'p' ? isPlayer(k, players) : isLine(k, players, lines);
                if (!fits) {
                    return k;
                }
                players += at(k) == 'p' ? 1 : 0;
                lines += at(k) == 'p' ? 0 : 1;
            }
            return NONE;
        }

        boolean isPlayer(int place, int players) {
            return players < MOST_PLAYERS && digit(place + 1) <= MOST_KIND && digit(place + 2) >= 1;
        }

        boolean isLine(int place, int players, int lines) {
            int cue = digit(place + 2 + wordsBehind(place + 2));
            return lines < MOST_LINES && digit(place + 1) < players && cue >= 1 && cue <= MOST_WORDS;
        }

        /** Only where there is no fault: how many statements there are. */
        int bringAll(Play play) {
            int statements = 0;
            for (int k = 0; k < size; k++) {
                if (!begins(k)) {
                    continue;
                }
                if (at(k) == 'p') {
                    play.addPlayer(playerOf(digit(k + 1), digit(k + 2)), digit(k + 3));
                } else {
                    bringLine(play, k);
                }
                statements++;
            }
            return statements;
        }

        void bringLine(Play play, int place) {
            int words = wordsBehind(place + 2);
            int text = 0;
            for (int k = 0; k < words; k++) {
                text = (text << WORD_BITS) | (at(place + 2 + k) - 'a');
            }
            int cueAt = place + 2 + words;
            play.addLine(digit(place + 1), text, words, digit(cueAt), at(cueAt + 1) == '!');
        }
    }
}
