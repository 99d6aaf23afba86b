import java.util.function.IntSupplier;
import java.util.function.Supplier;

/**
 * Each refusal of each call: the last number that is taken and the first that is refused on both sides, the first
 * refusal where two fit, and that a refused call changes nothing but how many refusals there were.
 *
 * Each call is made on one of two objects with the same past; behind it both are asked for all that they tell.
 */
public final class RefusalTests {
    private static final long LONG = 4000000000000000000L;
    private static final int LEAST = Integer.MIN_VALUE;
    private static final int MOST = Integer.MAX_VALUE;
    private static final int NEVER = 0;

    private interface Call {
        long on(EachOnHisCue x);
    }

    private interface CallOf {
        long on(EachOnHisCue x, int a);
    }

    private record Past(String name, Supplier<EachOnHisCue> made) { }

    private static final Past NOTHING = new Past("nothing there", EachOnHisCue::new);
    private static final Past PLAYERS = new Past("players alone", () -> told("p015;p316;"));
    private static final Past SOME = new Past("some", RefusalTests::some);
    private static final Past SEVEN = new Past("seven lines", () -> lines(7));
    private static final Past EIGHT = new Past("eight lines", () -> lines(8));
    private static final Past NINE = new Past("nine lines", () -> lines(9));
    private static final Past TEN = new Past("ten lines", () -> lines(10));
    private static final Past FULL = new Past("no room", RefusalTests::full);
    private static final Past[] ALL = {NOTHING, PLAYERS, SOME, SEVEN, EIGHT, NINE, TEN, FULL};
    private static final Past[] WITHOUT_LINES = {NOTHING, PLAYERS};
    private static final Past[] WITH_LINES = {SOME, SEVEN, EIGHT, NINE, TEN, FULL};

    private static int wrong = 0;
    private static int looked = 0;

    private static void due(String what, Object got, Object want) {
        looked++;
        if (!got.equals(want)) {
            wrong++;
            System.out.println(what + ": answered " + got + ", due is " + want);
        }
    }

    private static void feed(EachOnHisCue x, String text) {
        for (int k = 0; k < text.length(); k++) {
            x.feed(text.charAt(k));
        }
    }

    private static EachOnHisCue told(String... pieces) {
        EachOnHisCue x = new EachOnHisCue();
        for (String text : pieces) {
            feed(x, text);
            if (x.piece() < 0) {
                throw new IllegalStateException("not a piece: " + text);
            }
        }
        return x;
    }

    /** Something of everything: an image of another state, lines said, letters and a row begun. */
    private static EachOnHisCue some() {
        EachOnHisCue x = told("p015;p116;p318;l0ab1;l1cb2;l0d1!;l2abcd3;");
        x.say();
        x.lose(25);
        x.image();
        x.say();
        x.lose(40);
        x.cue(1, 3);
        x.speed(2, 4);
        x.row(0);
        x.row(1);
        feed(x, "l1z2");
        return x;
    }

    private static EachOnHisCue lines(int n) {
        EachOnHisCue x = told("p015;p015;");
        for (int i = 0; i < n; i++) {
            feed(x, "l" + i % 2 + (char) ('a' + i) + "1;");
        }
        x.piece();
        x.say();
        return x;
    }

    /** Five players, twelve lines (the last has four words), eighty letters, a row of twelve. */
    private static EachOnHisCue full() {
        EachOnHisCue x = told("p015;p115;p215;p315;p415;l0a1;l1b1;l2c1;l3d1;l4e1;l0f1;l1g1;l2h1;l3i1;l4j1;");
        x.image();
        feed(x, "l0k1;l1lmno1;");
        x.piece();
        x.say();
        x.say();
        for (int k = 0; k < 12; k++) {
            x.row(k);
        }
        feed(x, "l0a1;".repeat(16));
        return x;
    }

    private static void ask(StringBuilder s, IntSupplier call) {
        s.append(call.getAsInt()).append(' ');
    }

    private static void askPlayersAndLines(StringBuilder s, EachOnHisCue x) {
        for (int what = 0; what <= 7; what++) {
            s.append(x.count(what)).append(' ');
        }
        for (int p = 0; p < x.count(0); p++) {
            for (int what = 0; what <= 4; what++) {
                s.append(x.player(p, what)).append(' ');
            }
            s.append(x.comes(p)).append(' ');
        }
        for (int i = 0; i < x.count(1); i++) {
            for (int what = 0; what <= 4; what++) {
                s.append(x.line(i, what)).append(' ');
            }
            s.append(x.follow(i)).append(' ');
        }
    }

    /** All that the object tells; behind this it is another. */
    private static String allOf(EachOnHisCue x) {
        StringBuilder s = new StringBuilder();
        askPlayersAndLines(s, x);
        for (int what = 0; what <= 3; what++) {
            s.append(x.goes(what)).append(' ').append(x.net(what)).append(' ').append(x.stretched(what)).append(' ');
        }
        s.append(x.home(0)).append(' ').append(x.home(1)).append(' ');
        ask(s, x::mend);
        ask(s, x::prompted);
        ask(s, x::leastHarm);
        ask(s, x::parts);
        ask(s, x::books);
        ask(s, () -> x.lot(3, 5));
        ask(s, x::judge);
        ask(s, x::possible);
        ask(s, x::say);
        ask(s, x::piece);
        ask(s, () -> x.count(1));
        ask(s, x::restore);
        askPlayersAndLines(s, x);
        return s.toString();
    }

    private static int[] refusals(EachOnHisCue x) {
        int[] all = new int[6];
        for (int k = 0; k < 6; k++) {
            all[k] = x.count(11 + k);
        }
        return all;
    }

    private static void refused(Past past, String name, Call call, int number) {
        String what = name + ", " + past.name;
        EachOnHisCue x = past.made.get();
        EachOnHisCue twin = past.made.get();
        due(what, call.on(x), name.startsWith("home") ? LONG - number : (long) number);
        int[] got = refusals(x);
        int[] was = refusals(twin);
        for (int k = 0; k < 6; k++) {
            due("refusals " + -(k + 1) + " behind " + what, got[k] - was[k], k + 1 == -number ? 1 : 0);
        }
        due("what is left behind " + what, allOf(x), allOf(twin));
    }

    private static void taken(Past past, String name, Call call) {
        String what = name + ", " + past.name;
        EachOnHisCue x = past.made.get();
        long got = call.on(x);
        due(what + " is refused", got >= -6 && got <= -1 || got >= LONG, false);
        int[] was = refusals(past.made.get());
        int[] now = refusals(x);
        for (int k = 0; k < 6; k++) {
            due("refusals " + -(k + 1) + " behind " + what, now[k] - was[k], 0);
        }
    }

    private static void answers(Past past, String name, Call call, long want) {
        due(name + ", " + past.name, call.on(past.made.get()), want);
        taken(past, name, call);
    }

    /** From least to greatest a number is taken; below and above it is refused as told (NEVER: there is no such end). */
    private static void range(Past past, String name, CallOf call, int least, int below, int greatest, int above) {
        if (below != NEVER) {
            for (int a : new int[] {LEAST, LEAST + 1, least - 2, least - 1}) {
                refused(past, name + " of " + a, x -> call.on(x, a), below);
            }
        }
        for (int a : new int[] {least, greatest}) {
            taken(past, name + " of " + a, x -> call.on(x, a));
        }
        if (above != NEVER) {
            for (int a : new int[] {greatest + 1, greatest + 2, MOST - 1, MOST}) {
                refused(past, name + " of " + a, x -> call.on(x, a), above);
            }
        }
    }

    /** Every number is refused: with one number below least, with another from there on. */
    private static void none(Past past, String name, CallOf call, int least, int below, int above) {
        for (int a : new int[] {LEAST, -2, -1, 0, 1, 2, 3, 4, 5, 11, 12, 80, 255, 256, MOST}) {
            refused(past, name + " of " + a, x -> call.on(x, a), a < least ? below : above);
        }
    }

    private static void eachPlayer(String name, CallOf call) {
        none(NOTHING, name, call, 0, -1, -1);
        range(SOME, name, call, 0, -1, 2, -1);
        range(FULL, name, call, 0, -1, 4, -1);
    }

    private static void eachLine(String name, CallOf call) {
        none(NOTHING, name, call, 0, -1, -1);
        none(PLAYERS, name, call, 0, -1, -1);
        range(SOME, name, call, 0, -1, 3, -1);
        range(FULL, name, call, 0, -1, 11, -1);
    }

    private static void feed() {
        range(NOTHING, "feed", EachOnHisCue::feed, 0, -4, 255, -6);
        range(SOME, "feed", EachOnHisCue::feed, 0, -4, 255, -6);
        none(FULL, "feed", EachOnHisCue::feed, 0, -4, -6);
        Past one = new Past("79 letters", () -> {
            EachOnHisCue x = told("p015;");
            feed(x, "l".repeat(79));
            return x;
        });
        range(one, "feed", EachOnHisCue::feed, 0, -4, 255, -6);
        answers(one, "feed", x -> x.feed(59), 80);
    }

    private static void calls() {
        for (Past past : ALL) {
            taken(past, "piece", EachOnHisCue::piece);
            taken(past, "again", EachOnHisCue::again);
            taken(past, "parts", EachOnHisCue::parts);
            taken(past, "possible", EachOnHisCue::possible);
            taken(past, "image", EachOnHisCue::image);
        }
        for (Past past : WITHOUT_LINES) {
            refused(past, "say", EachOnHisCue::say, -3);
            refused(past, "mend", EachOnHisCue::mend, -3);
            refused(past, "prompted", EachOnHisCue::prompted, -3);
            refused(past, "leastHarm", EachOnHisCue::leastHarm, -3);
            refused(past, "books", EachOnHisCue::books, -3);
            refused(past, "judge", EachOnHisCue::judge, -3);
        }
        for (Past past : WITH_LINES) {
            taken(past, "say", EachOnHisCue::say);
            taken(past, "mend", EachOnHisCue::mend);
            taken(past, "prompted", EachOnHisCue::prompted);
            taken(past, "leastHarm", EachOnHisCue::leastHarm);
            taken(past, "judge", EachOnHisCue::judge);
        }
        for (Past past : new Past[] {NOTHING, PLAYERS, SEVEN, TEN}) {
            refused(past, "restore", EachOnHisCue::restore, -3);
        }
        answers(SOME, "restore", EachOnHisCue::restore, 4);
        answers(FULL, "restore", EachOnHisCue::restore, 10);
    }

    private static void players() {
        eachPlayer("player", (x, a) -> x.player(a, 0));
        eachPlayer("speed", (x, a) -> x.speed(a, 3));
        eachPlayer("comes", EachOnHisCue::comes);
        eachPlayer("without", EachOnHisCue::without);
        range(PLAYERS, "player", (x, a) -> x.player(a, 4), 0, -1, 1, -1);
        range(PLAYERS, "speed", (x, a) -> x.speed(a, 9), 0, -1, 1, -1);
        range(PLAYERS, "comes", EachOnHisCue::comes, 0, -1, 1, -1);
        range(SOME, "player 0", (x, a) -> x.player(0, a), 0, -2, 4, -2);
        range(FULL, "player 4", (x, a) -> x.player(4, a), 0, -2, 4, -2);
        range(SOME, "speed of 1", (x, a) -> x.speed(1, a), 0, -4, 9, -6);
        range(FULL, "speed of 4", (x, a) -> x.speed(4, a), 0, -4, 9, -6);
        for (int a : new int[] {LEAST, -1, 3, MOST}) {
            none(SOME, "player " + a, (x, b) -> x.player(a, b), 0, -1, -1);
            none(SOME, "speed of " + a, (x, b) -> x.speed(a, b), 0, -1, -1);
        }
    }

    private static void lines() {
        eachLine("line", (x, a) -> x.line(a, 0));
        eachLine("cue", (x, a) -> x.cue(a, 2));
        eachLine("follow", EachOnHisCue::follow);
        eachLine("mendOf", EachOnHisCue::mendOf);
        range(SOME, "line 3", (x, a) -> x.line(3, a), 0, -2, 4, -2);
        range(FULL, "line 11", (x, a) -> x.line(11, a), 0, -2, 4, -2);
        range(SOME, "cue of 0", (x, a) -> x.cue(0, a), 1, -4, 4, -6);
        range(FULL, "cue of 11", (x, a) -> x.cue(11, a), 1, -4, 4, -6);
        for (int a : new int[] {LEAST, -1, 4, MOST}) {
            none(SOME, "line " + a, (x, b) -> x.line(a, b), 0, -1, -1);
            none(SOME, "cue of " + a, (x, b) -> x.cue(a, b), 0, -1, -1);
            none(SOME, "joke in " + a, (x, b) -> x.joke(a, b), 0, -1, -1);
        }
    }

    private static void whats() {
        for (Past past : WITH_LINES) {
            range(past, "goes", EachOnHisCue::goes, 0, -2, 3, -2);
            range(past, "net", EachOnHisCue::net, 0, -2, 3, -2);
        }
        for (Past past : WITHOUT_LINES) {
            for (int what : new int[] {LEAST, -1, 4, MOST}) {
                refused(past, "goes " + what, x -> x.goes(what), -2);
                refused(past, "net " + what, x -> x.net(what), -2);
            }
            for (int what = 0; what <= 3; what++) {
                int one = what;
                refused(past, "goes " + what, x -> x.goes(one), -3);
                refused(past, "net " + what, x -> x.net(one), -3);
            }
        }
        for (Past past : ALL) {
            for (int what : new int[] {LEAST, -9, -1, 0, 7, 8, 10, 11, 16, 17, MOST}) {
                taken(past, "count " + what, x -> x.count(what));
            }
        }
    }

    private static void home() {
        for (Past past : new Past[] {SOME, SEVEN, EIGHT, NINE}) {
            range(past, "home", EachOnHisCue::home, 0, -2, 1, -2);
        }
        for (int part : new int[] {LEAST, -1, 2, MOST}) {
            for (Past past : ALL) {
                refused(past, "home of " + part, x -> x.home(part), -2);
            }
        }
        for (int part : new int[] {0, 1}) {
            refused(NOTHING, "home of " + part, x -> x.home(part), -3);
            refused(PLAYERS, "home of " + part, x -> x.home(part), -3);
            refused(TEN, "home of " + part, x -> x.home(part), -6);
            refused(FULL, "home of " + part, x -> x.home(part), -6);
        }
    }

    private static void numbers() {
        for (Past past : ALL) {
            range(past, "lose", EachOnHisCue::lose, 0, -4, 99, -6);
        }
        for (Past past : WITH_LINES) {
            range(past, "night", EachOnHisCue::night, 0, -4, MOST, NEVER);
            range(past, "stretched", EachOnHisCue::stretched, 0, -4, 3, -6);
            range(past, "lot", (x, a) -> x.lot(a, 7), 1, -4, 20, -6);
            range(past, "lot of the seed", (x, a) -> x.lot(2, a), LEAST, NEVER, MOST, NEVER);
        }
        for (Past past : WITHOUT_LINES) {
            none(past, "night", EachOnHisCue::night, 0, -4, -3);
            for (int a : new int[] {LEAST, -1, 0, 1, 3, 4, 20, 21, MOST}) {
                refused(past, "stretched " + a, x -> x.stretched(a), a < 0 ? -4 : a > 3 ? -6 : -3);
                refused(past, "lot " + a, x -> x.lot(a, 1), a < 1 ? -4 : a > 20 ? -6 : -3);
            }
            none(past, "lot of the seed", (x, a) -> x.lot(1, a), LEAST, NEVER, -3);
        }
    }

    private static void withoutOne() {
        for (int p : new int[] {0, 1}) {
            refused(PLAYERS, "without " + p, x -> x.without(p), -3);
        }
        for (int p : new int[] {LEAST, -1, 2, MOST}) {
            refused(PLAYERS, "without " + p, x -> x.without(p), -1);
        }
    }

    private static void joke() {
        none(NOTHING, "joke", (x, a) -> x.joke(a, 0), 0, -1, -1);
        none(PLAYERS, "joke", (x, a) -> x.joke(a, 0), 0, -1, -1);
        range(SOME, "joke with", (x, a) -> x.joke(0, a), 0, -4, 25, -6);
        range(FULL, "joke with", (x, a) -> x.joke(10, a), 0, -4, 25, -6);
        none(SOME, "joke in a line of four", (x, a) -> x.joke(3, a), 0, -4, -6);
        none(FULL, "joke in a line of four", (x, a) -> x.joke(11, a), 0, -4, -6);
        refused(FULL, "joke in 12", x -> x.joke(12, 26), -1);
        refused(FULL, "joke in -1", x -> x.joke(-1, -1), -1);
        Past three = new Past("a line of three words", () -> told("p015;l0abc1;"));
        range(three, "joke with", (x, a) -> x.joke(0, a), 0, -4, 25, -6);
    }

    private static void books() {
        taken(SOME, "books", EachOnHisCue::books);
        answers(SEVEN, "books", EachOnHisCue::books, 1);
        for (Past past : new Past[] {EIGHT, NINE, TEN, FULL}) {
            refused(past, "books", EachOnHisCue::books, -6);
            none(past, "book, k", (x, k) -> x.book(k, 0), 0, -4, -6);
            none(past, "book, i", (x, i) -> x.book(0, i), 0, -4, -6);
        }
        for (Past past : WITHOUT_LINES) {
            none(past, "book, k", (x, k) -> x.book(k, 0), 0, -4, -3);
            none(past, "book, i", (x, i) -> x.book(0, i), 0, -4, -3);
        }
        for (Past past : new Past[] {SOME, SEVEN}) {
            range(past, "book, k", (x, k) -> x.book(k, 0), 0, -4, MOST, NEVER);
            range(past, "book, i", (x, i) -> x.book(0, i), 0, -4, MOST, NEVER);
        }
        for (Past past : ALL) {
            refused(past, "book, both below", x -> x.book(-1, -1), -4);
            refused(past, "book, one below, one great", x -> x.book(MOST, -1), -4);
            refused(past, "book, one below, one great", x -> x.book(-1, MOST), -4);
        }
    }

    private static void row() {
        for (Past past : new Past[] {NOTHING, PLAYERS, SOME, SEVEN}) {
            range(past, "row", EachOnHisCue::row, 0, -4, 11, -6);
        }
        none(FULL, "row", EachOnHisCue::row, 0, -4, -6);
        Past eleven = new Past("eleven in the row", () -> {
            EachOnHisCue x = told("p015;l0a1;");
            for (int k = 0; k < 11; k++) {
                x.row(0);
            }
            return x;
        });
        range(eleven, "row", EachOnHisCue::row, 0, -4, 11, -6);
        answers(eleven, "row", x -> x.row(5), 12);
    }

    /** Room comes again: letters behind a piece, the row behind possible, and what an image had. */
    private static void roomAgain() {
        answers(FULL, "feed behind piece", x -> x.piece() < -1000 ? x.feed(0) : -99, 1);
        answers(FULL, "row behind possible", x -> x.possible() > -10 ? x.row(0) : -99, 1);
        answers(FULL, "a line behind restore", x -> {
            x.piece();
            x.restore();
            feed(x, "l0a1;l0a1;");
            return x.piece();
        }, 2);
    }

    /** Refusals of all kinds, one behind the other: each is counted for itself, and none of them is forgotten. */
    private static void counted() {
        EachOnHisCue x = new EachOnHisCue();
        int[] due = new int[6];
        for (int round = 0; round < 20; round++) {
            x.player(0, 0);
            x.goes(9);
            x.home(9);
            x.say();
            x.home(0);
            x.lose(-1);
            x.row(12);
            x.feed(256);
            x.piece();
            int[] more = {1, 2, 2, 1, 0, 2};
            for (int k = 0; k < 6; k++) {
                due[k] += more[k];
                due("count(" + (11 + k) + ") behind round " + round, x.count(11 + k), due[k]);
            }
            x.again();
            x.image();
            x.restore();
        }
    }

    public static void main(String[] args) {
        feed();
        calls();
        players();
        lines();
        whats();
        home();
        numbers();
        withoutOne();
        joke();
        books();
        row();
        roomAgain();
        counted();
        System.out.println(looked + " looks at refusals, " + wrong + " are not as due");
        if (wrong != 0) {
            System.exit(1);
        }
    }
}
