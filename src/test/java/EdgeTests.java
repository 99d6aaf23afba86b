import java.util.ArrayList;
import java.util.List;

/** Each sentence of the document that names a boundary case, in the document's order, each with a test of its own. */
public final class EdgeTests {
    private static final String DIGITS = "0123456789";
    private static final String SMALL = "abcdefghijklmnopqrstuvwxyz";
    private static final String FIVE = "p015;p015;p015;p015;p015;";

    private static int wrong = 0;
    private static int looked = 0;
    private static String sentence = "";

    /** The words of the document, some of them shortened, that the looks below are about. */
    private static void says(String words) {
        sentence = words;
    }

    private static void due(String what, long got, long want) {
        looked++;
        if (got != want) {
            wrong++;
            System.out.println("\"" + sentence + "\": " + what + " answered " + got + ", due is " + want);
        }
    }

    private static int tell(EachOnHisCue x, String text) {
        for (int k = 0; k < text.length(); k++) {
            x.feed(text.charAt(k));
        }
        return x.piece();
    }

    private static EachOnHisCue of(String... pieces) {
        EachOnHisCue x = new EachOnHisCue();
        for (String text : pieces) {
            due("piece of " + text, tell(x, text), text.chars().filter(c -> c == ';').count());
        }
        return x;
    }

    private static void night(EachOnHisCue x, int... lines) {
        for (int i = 0; i < lines.length; i++) {
            due("night(" + i + ")", x.night(i), lines[i]);
        }
        due("night(" + lines.length + ")", x.night(lines.length), -9);
        due("goes(0)", x.goes(0), lines.length);
    }

    private static void said(EachOnHisCue x, int... lines) {
        for (int line : lines) {
            due("say()", x.say(), line);
        }
    }

    private static void row(EachOnHisCue x, int... lines) {
        for (int line : lines) {
            x.row(line);
        }
    }

    private static void net(EachOnHisCue x, int... due) {
        for (int what = 0; what < due.length; what++) {
            due("net(" + what + ")", x.net(what), due[what]);
        }
    }

    /** So many lines, each cued by the one ahead alone, of two players by turns. */
    private static EachOnHisCue written(int n) {
        StringBuilder text = new StringBuilder("p015;p015;");
        for (int i = 0; i < n; i++) {
            text.append('l').append(i % 2).append((char) ('a' + i)).append("1;");
        }
        return of(text.toString());
    }

    /** So many lines that each cue all others, of an ANY. */
    private static EachOnHisCue alike(int n) {
        return of("p115;" + "l0a1;".repeat(n));
    }

    private static void calls512() {
        says("An object is used for at most 512 calls after it has been made");
        EachOnHisCue x = new EachOnHisCue();
        tell(x, "p115;l0a1;l0a1;");
        for (int k = 17; k <= 511; k++) {
            due("call " + k, x.say(), k == 17 ? 0 : 1);
        }
        due("call 512", x.count(2), 495);
    }

    private static void players() {
        says("PLAYERS 0 .. 4 as they come");
        EachOnHisCue x = of("p511;p422;p333;p244;p155;");
        for (int p = 0; p <= 4; p++) {
            due("player(" + p + ", 0)", x.player(p, 0), 5 - p);
            due("player(" + p + ", 1)", x.player(p, 1), p + 1);
        }
        due("a sixth", tell(x, "p015;"), -2000);
        due("count(0)", x.count(0), 5);
        EachOnHisCue six = new EachOnHisCue();
        due("six at once", tell(six, FIVE + "p015;"), -2025);
        due("count(0)", six.count(0), 0);
        EachOnHisCue four = of("p015;p015;p015;p015;");
        due("two more", tell(four, "p015;p015;"), -2005);
        due("count(0)", four.count(0), 4);
        due("one more", tell(four, "p015;"), 1);
        due("count(0)", four.count(0), 5);
        says("KINDS: 0 NEXT .. 5 KEEN");
        for (int kind = 0; kind <= 9; kind++) {
            EachOnHisCue one = new EachOnHisCue();
            due("kind " + kind, tell(one, "p" + kind + "15;"), kind <= 5 ? 1 : -2000);
            due("its kind", one.player(0, 0), kind <= 5 ? kind : -1);
        }
        says("with a FIGURE (1 .. 9)");
        for (int figure = 0; figure <= 9; figure++) {
            for (int kind = 0; kind <= 5; kind++) {
                EachOnHisCue one = new EachOnHisCue();
                due("figure " + figure, tell(one, "p" + kind + figure + "5;"), figure >= 1 ? 1 : -2000);
                due("its figure", one.player(0, 1), figure >= 1 ? figure : -1);
            }
        }
        says("a SPEED (0 .. 9)");
        for (int v = 0; v <= 9; v++) {
            due("haste of speed " + v, of("p01" + v + ";").player(0, 2), v);
        }
    }

    private static void lines() {
        says("LINES 0 .. 11 as they come, in the order in which they are written");
        EachOnHisCue x = of(FIVE + "l4a1;l3ab2;l2abc3;l1abcd4;l0a1;", "l4a1;l4a2;l4a3;l4a4;l4a1;l4a2;l3zz4!;");
        int[] whose = {4, 3, 2, 1, 0, 4, 4, 4, 4, 4, 4, 3};
        int[] cues = {1, 2, 3, 4, 1, 1, 2, 3, 4, 1, 2, 4};
        for (int i = 0; i <= 11; i++) {
            due("line(" + i + ", 0)", x.line(i, 0), whose[i]);
            due("line(" + i + ", 2)", x.line(i, 2), cues[i]);
            due("line(" + i + ", 3)", x.line(i, 3), i == 11 ? 1 : 0);
        }
        due("lines of player 4", x.player(4, 3), 1 | 0b11111100000);
        due("lines of player 3", x.player(3, 3), 1 << 1 | 1 << 11);
        due("a thirteenth", tell(x, "l0a1;"), -2000);
        due("count(1)", x.count(1), 12);
        EachOnHisCue eleven = of("p015;" + "l0a1;".repeat(11));
        due("two more", tell(eleven, "l0a1;l0a1;"), -2005);
        due("count(1)", eleven.count(1), 11);
        due("one more", tell(eleven, "l0a1;"), 1);
        due("count(1)", eleven.count(1), 12);
        EachOnHisCue many = new EachOnHisCue();
        due("thirteen at once", tell(many, "p015;" + "l0a1;".repeat(13)), -2065);
        due("count(1)", many.count(1), 0);
        says("whose it is");
        for (int p = 0; p <= 9; p++) {
            due("of player " + p, tell(of(FIVE), "l" + p + "a1;"), p <= 4 ? 1 : -2000);
            due("of player " + p + " of one", tell(of("p015;"), "l" + p + "a1;"), p == 0 ? 1 : -2000);
            due("of player " + p + " of none", tell(new EachOnHisCue(), "l" + p + "a1;"), -2000);
        }
        says("WORDS (1 .. 4, each a small letter)");
        for (int n = 0; n <= 6; n++) {
            EachOnHisCue one = of("p015;");
            int want = n == 0 ? -1002 : n <= 4 ? 1 : -1006;
            due(n + " words", tell(one, "l0" + "abcdef".substring(0, n) + "1;"), want);
            due("its words", one.line(0, 1), want == 1 ? n : -1);
            due("all words", one.count(4), want == 1 ? n : 0);
        }
        says("CUE (1 .. 4)");
        for (int c = 0; c <= 9; c++) {
            EachOnHisCue one = of("p015;");
            due("cue " + c, tell(one, "l0abcd" + c + ";"), c >= 1 && c <= 4 ? 1 : -2000);
            due("its cue", one.line(0, 2), c >= 1 && c <= 4 ? c : -1);
        }
    }

    private static void hears() {
        says("What one HEARS of a LINE's CUE: CUE words, DEAF (and SICK) no more than FIGURE");
        for (int kind = 0; kind <= 5; kind++) {
            for (int figure = 1; figure <= 9; figure++) {
                for (int cue = 1; cue <= 4; cue++) {
                    hears(kind, figure, cue);
                }
            }
        }
        // 0 1 2 always; 0 2 1 too, if line 1 listens for b alone.
        due("a SICK one of figure 1", of("p015;p415;l0ab1;l1b2;l0zb1;").books(), 2);
        due("a SICK one of figure 2", of("p015;p425;l0ab1;l1b2;l0zb1;").books(), 1);
    }

    /** Lines 2 .. 5 end as line 0 does in 1, 2, 3, 4 words. */
    private static void hears(int kind, int figure, int cue) {
        EachOnHisCue x = of("p015;p" + kind + figure + "5;l0abcd1;l1q" + cue + ";l0wxyd1;l0wxcd1;l0wbcd1;l0abcd1;");
        int heard = kind == 3 ? Math.min(figure, cue) : cue;
        for (int alike = 1; alike <= 4; alike++) {
            int due = kind != 4 && heard <= alike ? 1 : 0;
            String what = "kind " + kind + ", figure " + figure + ", cue " + cue + ", " + alike + " words alike";
            due(what, x.follow(1 + alike) >> 1 & 1, due);
        }
    }

    private static void cued() {
        says("A LINE j (not 0) is CUED");
        EachOnHisCue x = alike(12);
        for (int i = 0; i <= 11; i++) {
            due("follow(" + i + ")", x.follow(i), 4094);
        }
        EachOnHisCue own = of("p115;l0a1;");
        said(own, 0);
        due("line 0 on itself", own.comes(0), -9);
        due("follow(0) of one line", own.follow(0), 0);
        says("the last words of i are as the last words of LINE j less 1, as many as he HEARS (or all that LINE j less 1 has)");
        for (int size = 1; size <= 4; size++) {
            for (int cue = 1; cue <= 4; cue++) {
                for (int has = 1; has <= 4; has++) {
                    cued(size, cue, has);
                }
            }
        }
    }

    /** Line 2 has so many of the last words of abcd, line 0 as well; nothing else is in the way. */
    private static void cued(int size, int cue, int has) {
        String ahead = "abcd".substring(4 - size);
        String heard = "abcd".substring(4 - has);
        EachOnHisCue x = of("p015;p015;l0" + ahead + "1;l1z" + cue + ";l0" + heard + "1;");
        int listens = Math.min(cue, size);
        String what = heard + " for the last " + cue + " of " + ahead;
        due(what, x.follow(2), has >= listens ? 1 << 1 : 0);
        due("line 0 cues its next", x.follow(0), 1 << 1);
        if (has >= listens) {
            String other = heard.substring(0, has - listens) + "x" + heard.substring(has - listens + 1);
            EachOnHisCue y = of("p015;p015;l0" + ahead + "1;l1z" + cue + ";l0" + other + "1;");
            due(other + " in its place", y.follow(2), 0);
        }
        if (has > listens) {
            String before = "x".repeat(has - listens) + heard.substring(has - listens);
            EachOnHisCue y = of("p015;p015;l0" + ahead + "1;l1z" + cue + ";l0" + before + "1;");
            due(before + " in its place", y.follow(2), 1 << 1);
        }
    }

    private static void setNumbers() {
        says("CUE of a LINE becomes c: what it was. -1; -4 below 1; -6 4");
        EachOnHisCue x = written(12);
        for (int line : new int[] {0, 11}) {
            int was = 1;
            for (int c = 0; c <= 5; c++) {
                int due = c < 1 ? -4 : c > 4 ? -6 : was;
                due("cue(" + line + ", " + c + ")", x.cue(line, c), due);
                was = due > 0 ? c : was;
                due("line(" + line + ", 2)", x.line(line, 2), was);
            }
        }
        due("another LINE's stays", x.line(5, 2), 1);
        says("SPEED of a PLAYER becomes v: what it was. -1; -4; -6 9");
        EachOnHisCue y = of("p013;p213;p013;p013;p213;");
        for (int player : new int[] {0, 4}) {
            int was = 3;
            for (int v = -1; v <= 10; v++) {
                int due = v < 0 ? -4 : v > 9 ? -6 : was;
                due("speed(" + player + ", " + v + ")", y.speed(player, v), due);
                was = due >= 0 ? v : was;
                due("player(" + player + ", 2)", y.player(player, 2), player == 4 ? 2 * was + 1 : was);
            }
        }
        due("another PLAYER's stays", y.player(1, 2), 7);
        says("LOSE becomes v: what it was. -4; -6 99");
        int was = 10;
        for (int v = -1; v <= 100; v++) {
            int due = v < 0 ? -4 : v > 99 ? -6 : was;
            due("lose(" + v + ")", y.lose(v), due);
            was = due >= 0 ? v : was;
            due("count(7)", y.count(7), was);
        }
    }

    /** With one word of CUE the quickest comes in too early with line 3, with two it goes as written. */
    private static void oneWordOrTwo() {
        says("as many as he HEARS of j's CUE, in each call");
        String text = "p015;p014;p019;l0ab1;l1q1;l0xb1;l2r";
        for (int cue = 1; cue <= 2; cue++) {
            EachOnHisCue x = of(text + (3 - cue) + ";");
            boolean early = cue == 1;
            said(x, 0);
            x.cue(3, cue);
            due("comes(2)", x.comes(2), early ? 3 : -9);
            due("comes(1)", x.comes(1), 1);
            due("say()", x.say(), early ? 3 : 1);
            due("night(1)", x.night(1), early ? 3 : 1);
            due("goes(0)", x.goes(0), early ? 2 : 4);
            due("goes(1)", x.goes(1), early ? 1 : 0);
            due("goes(1) again", x.goes(1), early ? 1 : 0);
            due("goes(3)", x.goes(3), early ? 0 : 1);
            due("follow(0)", x.follow(0), early ? 10 : 2);
            due("net(1)", x.net(1), early ? 1 : 3);
            due("mendOf(3)", x.mendOf(3), early ? 1 : 0);
            due("prompted()", x.prompted(), early ? 1 : 0);
            due("prompted() again", x.prompted(), early ? 1 : 0);
            due("home(0)", x.home(0), early ? 0 : 729);
            due("home(1)", x.home(1), early ? 1 : 1000);
            due("without(1)", x.without(1), early ? 2 : 1);
            due("joke(3, 0)", x.joke(3, 0), early ? 2 : 4);
            due("stretched(0)", x.stretched(0), early ? 2 : 4);
            row(x, 0, 3);
            due("judge()", x.judge(), early ? -9 : 1);
            due("possible()", x.possible(), early ? -9 : 1);
            for (int z = 0; z < 8; z++) {
                int drawn = draw(z * 1103515245 + 12345, 2);
                due("lot(1, " + z + ")", x.lot(1, z), early && drawn == 1 ? 2 : 4);
            }
            EachOnHisCue harm = of("p015;p019;p018;p415;l0ab1;l1c1;l3xb1;l2d" + cue + ";l2e1;");
            due("leastHarm()", harm.leastHarm(), early ? 1 : 0);
            EachOnHisCue books = of("p015;p015;l0ab1;l1b" + cue + ";l0zb1;");
            due("books()", books.books(), early ? 2 : 1);
            due("book(1, 1)", books.book(1, 1), early ? 2 : -9);
        }
    }

    private static void kinds() {
        says("NEXT: of his LINES that he has not SAID the one of least number, if it is CUED");
        for (int kind : new int[] {0, 2, 3}) {
            EachOnHisCue x = of("p015;p" + kind + "95;l0a1;l1x1;l0a1;l1y1;l0a1;");
            due("nothing has been said", x.comes(1), -9);
            said(x, 0);
            due("of two that are cued the least", x.comes(1), 1);
            said(x, 1, 2);
            due("the one that is left", x.comes(1), 3);
            said(x, 3, 4);
            due("all of his are said", x.comes(1), -9);
            EachOnHisCue waits = of("p115;p" + kind + "90;l0a1;l0ba1;l1x2;l0a1;l1y1;");
            said(waits, 0);
            due("line 4 is cued, but line 2 is the least", waits.comes(1), -9);
        }
        says("ANY: of all of his LINES (SAID or not) that are CUED the one of least number");
        EachOnHisCue any = of("p415;p115;l0b1;l1b1;l0b1;l1a1;");
        said(any, 0);
        due("of two that are cued the least", any.comes(1), 1);
        said(any, 1);
        due("once more, though it was said", any.comes(1), 1);
        said(any, 1, 1);
        EachOnHisCue later = of("p115;l0b1;l0a1;l0a1;");
        said(later, 0, 1, 2, 2, 2);
        says("KEEN: as an ANY, but that of the greatest number");
        EachOnHisCue keen = of("p515;" + "l0a1;".repeat(12));
        said(keen, 0);
        due("the greatest", keen.comes(0), 11);
        said(keen, 11);
        due("the greatest, though it was said", keen.comes(0), 11);
        due("one line", of("p515;l0a1;").goes(0), 1);
        says("SICK none");
        EachOnHisCue sick = of("p415;p015;l0a1;l0a1;l1a1;");
        said(sick, 0);
        due("the SICK one", sick.comes(0), -9);
        due("the other one", sick.comes(1), 2);
        says("Who is dead comes in no more");
        EachOnHisCue dead = of("p115;p511;l0a1;l0a1!;l1a1;");
        said(dead, 0);
        due("alive", dead.comes(0), 1);
        said(dead, 1);
        due("dead", dead.comes(0), -9);
        due("the other one", dead.comes(1), 2);
        said(dead, 2, 2);
    }

    private static void haste() {
        says("HASTE of a PLAYER: his SPEED; QUICK twice that and 1");
        for (int kind = 0; kind <= 5; kind++) {
            for (int v = 0; v <= 9; v++) {
                due("kind " + kind + ", speed " + v, of("p" + kind + "1" + v + ";").player(0, 2), kind == 2 ? 2 * v + 1 : v);
            }
        }
        says("The one who comes in with most HASTE (of several the least number)");
        for (int v = 0; v <= 9; v++) {
            for (int w = 0; w <= 9; w++) {
                for (int kind : new int[] {0, 2}) {
                    EachOnHisCue x = of("p115;p01" + v + ";p" + kind + "1" + w + ";l0a1;l1b1;l0a1;l2c1;");
                    x.speed(0, 0);
                    int other = kind == 2 ? 2 * w + 1 : w;
                    due("haste " + v + " and " + other, x.night(1), v >= other ? 1 : 3);
                }
            }
        }
        EachOnHisCue none = of("p015;p010;l0a1;l1b1;");
        night(none, 0, 1);
    }

    private static void sixty() {
        says("A NIGHT: it begins with LINE 0 (SAID)");
        night(of("p415;l0a1;l0b1;"), 0);
        EachOnHisCue sick = of("p415;l0a1!;");
        due("LINE 0 of a SICK one", sick.say(), 0);
        due("he is dead", sick.player(0, 4), 1);
        due("it is said", sick.line(0, 4), 1);
        says("till nobody comes in (it ENDS), or 60 LINES were SAID");
        EachOnHisCue x = alike(2);
        due("night(58)", x.night(58), 1);
        due("night(59)", x.night(59), 1);
        due("night(60)", x.night(60), -9);
        due("night(61)", x.night(61), -9);
        due("goes(0)", x.goes(0), 60);
        due("without(0)", x.without(0), 1);
        due("stretched(3)", x.stretched(3), 60);
        due("joke(0, 0)", x.joke(0, 0), 60);
        due("lot(1, 0)", x.lot(1, 0), 60);
        due("lot(20, 0)", x.lot(20, 0), 1200);
        // 60 lines: 0, then 1 2 1 2 ..: the sixtieth is 1.
        EachOnHisCue turn = of("p115;p115;l0a1;l1b1;l0a1;");
        due("night(59) of two by turns", turn.night(59), 1);
        due("goes(0) of two by turns", turn.goes(0), 60);
        says("If a LINE KILLS, its PLAYER is dead behind it");
        EachOnHisCue kills = of("p115;p015;l0a1;l0a1!;l1b1;");
        said(kills, 0);
        due("before it", kills.player(0, 4), 0);
        said(kills, 1);
        due("behind it", kills.player(0, 4), 1);
        due("the other one", kills.player(1, 4), 0);
        due("goes(2)", kills.goes(2), 1);
        EachOnHisCue sixtieth = of("p115;p115;l0a1;l1b1;l0a1!;");
        night(sixtieth, 0, 1, 2, 1);
    }

    private static void letters() {
        says("told in letters, one by one (80 at most)");
        EachOnHisCue x = new EachOnHisCue();
        due("eighty", tell(x, FIVE + "l0a1;".repeat(11)), 16);
        due("count(1)", x.count(1), 11);
        due("none is left", x.count(5), 0);
        EachOnHisCue more = new EachOnHisCue();
        String text = FIVE + "l0a1;".repeat(11);
        for (int k = 0; k < 80; k++) {
            due("feed " + k, more.feed(text.charAt(k)), k + 1);
        }
        due("one more", more.feed('p'), -6);
        due("count(5)", more.count(5), 80);
        due("all the same a piece", more.piece(), 16);
        EachOnHisCue cut = new EachOnHisCue();
        due("something lacks behind eighty", tell(cut, FIVE + "l0a1;".repeat(10) + "l0ab1"), -1080);
        EachOnHisCue eightieth = new EachOnHisCue();
        due("the eightieth is wrong", tell(eightieth, FIVE + "l0a1;".repeat(10) + "l0ab?"), -1079);
        says("At least one STATEMENT");
        due("no letters", new EachOnHisCue().piece(), -1000);
        due("one STATEMENT", new EachOnHisCue().count(0) + tell(new EachOnHisCue(), "p010;"), 1);
        EachOnHisCue twice = of("p010;");
        due("piece() again", twice.piece(), -1000);
    }

    /** Behind each beginning all 256 letters: with which of them a piece can go on. */
    private static void everyLetter() {
        says("the place of the first letter with which no PIECE can go on");
        String[][] beginnings = {
            {"", "pl"}, {"p", DIGITS}, {"p0", DIGITS}, {"p01", DIGITS}, {"p015", ";"}, {"p015;", "pl"},
            {"l", DIGITS}, {"l0", SMALL}, {"l0a", SMALL + DIGITS}, {"l0az", SMALL + DIGITS},
            {"l0abc", SMALL + DIGITS}, {"l0abcd", DIGITS}, {"l0a1", "!;"}, {"l0abcd4", "!;"}, {"l0a1!", ";"},
            {"l0a1;", "pl"}, {"l0a1!;", "pl"}, {"p999;l9zzzz9!;", "pl"}, {"p015;l0a1;l", DIGITS},
        };
        for (String[] one : beginnings) {
            EachOnHisCue x = new EachOnHisCue();
            int calls = 0;
            for (int letter = 0; letter <= 255; letter++) {
                if (calls > 480) {
                    x = new EachOnHisCue();
                    calls = 0;
                }
                int got = tell(x, one[0] + (char) letter + "?");
                int place = one[0].length() + (one[1].indexOf(letter) >= 0 ? 1 : 0);
                due("letter " + letter + " behind '" + one[0] + "'", got, -1000 - place);
                calls += one[0].length() + 3;
            }
        }
    }

    private static void faults() {
        says("(the end, if something lacks)");
        String text = "p015;l0abcd1!;p399;l1a4;";
        String ends = "5 14 19 24";
        int statements = 0;
        for (int k = 0; k <= text.length(); k++) {
            boolean whole = List.of(ends.split(" ")).contains("" + k);
            statements += whole ? 1 : 0;
            due("cut at " + k, tell(new EachOnHisCue(), text.substring(0, k)), whole ? statements : -1000 - k);
        }
        says("FAULT: kind 1 .. else kind 2");
        due("a wrong letter behind a wrong STATEMENT", tell(new EachOnHisCue(), "p915;l0a1;p01a"), -1013);
        due("something lacks behind a wrong STATEMENT", tell(new EachOnHisCue(), "p915;p"), -1006);
        due("a wrong STATEMENT alone", tell(new EachOnHisCue(), "p915;p015;"), -2000);
        says("the place of the first letter of the first STATEMENT that is not as it must be");
        due("the first of two", tell(new EachOnHisCue(), "p015;l0abcd1!;p995;l9a9;"), -2014);
        due("the last of four", tell(new EachOnHisCue(), "p015;l0abcd1!;p395;l2a4;"), -2019);
        due("a PLAYER who comes behind", tell(new EachOnHisCue(), "p015;l1a1;p015;"), -2005);
        due("a PLAYER who comes ahead", tell(new EachOnHisCue(), "p015;p015;l1a1;"), 3);
        due("the seventy-sixth letter", tell(new EachOnHisCue(), FIVE + "l0a1;".repeat(10) + "l0a5;"), -2075);
        says("Without FAULT all of it comes, with one nothing; nothing has been SAID then");
        for (String bad : new String[] {"p015;l0a1;x", "p015;l0a1;p", "p015;l0a1;p615;", "p015;l0a1;l5a1;", ""}) {
            EachOnHisCue x = of("p015;l0ab1;");
            int got = tell(x, bad);
            due("a fault in " + bad, got <= -1000 ? 1 : 0, 1);
            due("count(0)", x.count(0), 1);
            due("count(1)", x.count(1), 1);
            due("count(4)", x.count(4), 2);
            due("count(5)", x.count(5), 0);
            for (int what = 11; what <= 16; what++) {
                due("nothing is counted, count(" + what + ")", x.count(what), 0);
            }
        }
        EachOnHisCue x = of("p015;l0a1!;");
        said(x, 0);
        due("a PLAYER more", tell(x, "p015;"), 1);
        due("count(2)", x.count(2), 0);
        due("count(3)", x.count(3), -9);
        due("line(0, 4)", x.line(0, 4), 0);
        due("player(0, 4)", x.player(0, 4), 0);
    }

    private static void now() {
        says("SAYING goes on truly, LINE by LINE (the first is LINE 0)");
        EachOnHisCue x = written(3);
        due("comes(0) before all", x.comes(0), -9);
        due("comes(1) before all", x.comes(1), -9);
        due("count(3) before all", x.count(3), -9);
        said(x, 0);
        due("count(3)", x.count(3), 0);
        said(x, 1, 2, -9, -9);
        due("count(2): nobody came in", x.count(2), 3);
        due("count(3): nobody came in", x.count(3), 2);
        says("It begins anew, nothing has been SAID: how many had been");
        due("again()", x.again(), 3);
        due("again() again", x.again(), 0);
        due("comes(1)", x.comes(1), -9);
        said(x, 0, 1);
        due("again() of a new object", new EachOnHisCue().again(), 0);
        says("The i-th LINE of the NIGHT; -9 there is none such");
        due("night(0)", x.night(0), 0);
        due("night(2)", x.night(2), 2);
        due("night(3)", x.night(3), -9);
        due("night(greatest)", x.night(Integer.MAX_VALUE), -9);
        due("one line, night(0)", written(1).night(0), 0);
        due("one line, night(1)", written(1).night(1), -9);
        due("twelve lines, night(11)", written(12).night(11), 11);
        due("twelve lines, night(12)", written(12).night(12), -9);
    }

    private static void goes() {
        says("LEAPS: how often a LINE is not followed by the next one as written (where one follows)");
        due("one line", written(1).goes(1), 0);
        due("as written", written(12).goes(1), 0);
        due("it ends early", of("p015;p415;l0a1;l1b1;").goes(1), 0);
        due("a line upon itself", of("p115;l0a1;l0a1;").goes(1), 58);
        due("a line left out", of("p015;p019;l0a1;l0b1;l0a1;l1c1;").goes(1), 1);
        // 0 1 2 1 2 ..: from 2 back to 1 it leaps, 29 times in 60 lines.
        due("back", of("p115;p115;l0a1;l1b1;l0a1;").goes(1), 29);
        says("DEAD: PLAYERS (bits) in the end");
        due("nobody", written(12).goes(2), 0);
        due("all five", of(FIVE + "l0a1!;l1b1!;l2c1!;l3d1!;l4e1!;").goes(2), 31);
        due("the last alone", of(FIVE + "l4e1!;").goes(2), 16);
        due("a killing line that is not said", of("p015;p415;l0a1;l1b1!;").goes(2), 0);
        says("WRITTEN: whether it goes just as it is written, all of it, and ENDS then");
        for (int n = 1; n <= 12; n++) {
            due(n + " lines", written(n).goes(3), 1);
        }
        due("not all of it", of("p015;p015;l0a1;l1b1!;l0c1;l1d1;").goes(3), 0);
        due("it goes on behind the last", of("p115;p515;l0a1;l1b1;l0b1;l1a1;").goes(3), 0);
        due("the last once more", of("p015;p115;l0a1;l1a1;").goes(3), 0);
        due("another order, as many lines", of("p015;p015;p019;l0a1;l1b1;l0a1;l2b1;").goes(3), 0);
        due("a leap to the last", of("p015;p019;l0a1;l0b1;l0a1;l1c1;").goes(3), 0);
    }

    private static void theNet() {
        says("SICK ones' LINES never; what was SAID, who is dead does not matter");
        EachOnHisCue x = of("p015;p415;p015;l0a1!;l0a1;l1a1;l2a1;");
        said(x, 0, 3);
        for (int i = 0; i <= 3; i++) {
            due("follow(" + i + ")", x.follow(i), 1 << 1 | 1 << 3);
        }
        says("REACHED (bits): LINES that one can come to from LINE 0 (0 too)");
        due("one line", written(1).net(0), 1);
        due("nothing follows", of("p015;p415;l0a1;l1b1;").net(0), 1);
        due("all twelve", written(12).net(0), 4095);
        due("PLAYER 0 is SICK", of("p415;p015;l0a1;l0a1;l1a1;").follow(0), 1 << 2);
        due("backwards too", of("p015;p515;l0a1;l0b1;l0c1;l1b1;l0a1;l1d1;").net(0) & 1 << 1, 1 << 1);
        says("SHORTEST: the fewest steps from LINE 0 to the last LINE; -9");
        due("one line", written(1).net(1), 0);
        due("two lines", written(2).net(1), 1);
        due("twelve lines", written(12).net(1), 11);
        due("twelve lines alike", alike(12).net(1), 1);
        due("it can't be come to", of("p015;p415;l0a1;l0b1;l1c1;").net(1), -9);
        due("a SICK one's LINE parts it", of("p015;p415;l0a1;l1b1;l0c1;").net(1), -9);
        says("ROUND: whether one can come from LINE 0 to a LINE from which one can come back to it: 1, 0");
        due("one line", written(1).net(2), 0);
        due("twelve lines", written(12).net(2), 0);
        due("the last upon itself", of("p015;l0a1;l0a1;").net(2), 1);
        due("back to the line ahead", of("p015;l0a1;l0b1;l0a1;").net(2), 1);
        due("back through all twelve", backFromTheLast().net(2), 1);
        // 2 and 3 follow one another, but line 0 is followed by none, as line 1 is a SICK one's.
        due("a round that is not come to", of("p015;p415;l0a1;l1b1;l0c1;l0b1;").net(2), 0);
        due("line 0 is never come back to", of("p015;l0b1;l0a1;").net(2), 0);
        says("SURE: whether in THE NET each LINE but the last is FOLLOWED by the next one alone, and the last by none");
        for (int n = 1; n <= 12; n++) {
            due(n + " lines", written(n).net(3), 1);
        }
        due("the last is followed", of("p015;l0a1;l0a1;").net(3), 0);
        due("the last is followed by the first but one", backFromTheLast().net(3), 0);
        due("one is followed by two", of("p015;l0a1;l0b1;l0ca1;l0d1;").net(3), 0);
        due("one is followed by none", of("p015;p415;l0a1;l1b1;").net(3), 0);
    }

    /** Twelve lines, each followed by the next, and the last by line 1. */
    private static EachOnHisCue backFromTheLast() {
        EachOnHisCue x = of("p015;l0a1;l0b1;l0c1;l0d1;l0e1;l0f1;l0g1;l0h1;l0i1;l0j1;l0k1;", "l0za1;");
        due("follow(11)", x.follow(11), 2);
        return x;
    }

    private static void mend() {
        says("MEND: how many words of CUE more it takes at least so that no LINE but the one ahead CUES a LINE");
        for (int cue = 1; cue <= 4; cue++) {
            for (int alike = 0; alike <= 4; alike++) {
                mend(cue, alike);
            }
        }
        due("one line", written(1).mend(), 0);
        due("twelve lines", written(12).mend(), 0);
        due("twelve lines alike", alike(12).mend(), -9);
        // Lines 1 and 3 take three words more each, line 2 none.
        due("together", of("p015;l0abcd1;l0x1;l0wbcd1;l0y1;").mend(), 6);
        due("one can't be, others could", of("p015;l0abcd1;l0x1;l0wbcd1;l0x1;").mend(), -9);
        says("(all PLAYERS as if they heard all of a CUE; SICK ones' LINES too");
        due("a DEAF one", of("p015;p315;l0ab1;l1x2;l0cb1;").mendOf(1), 0);
        due("a DEAF one's cue of one word", of("p015;p315;l0ab1;l1x1;l0cb1;").mendOf(1), 1);
        due("a SICK one's LINE", of("p015;p415;l0ab1;l1x1;l0cb1;").mendOf(1), 1);
        due("a SICK one's LINE that can't be", of("p015;p415;l0b1;l1x1;l0cb1;").mend(), -9);
        due("a SICK one's LINE cues as well", of("p015;p415;l0ab1;l0x1;l1cb1;").mendOf(1), 1);
        says("a CUE no longer than the words of the LINE ahead); -9 it can't be");
        for (int size = 1; size <= 4; size++) {
            String ahead = "abcd".substring(4 - size);
            due(size + " words, the same again", of("p015;l0" + ahead + "1;l0q1;l0" + ahead + "1;").mendOf(1), -9);
            for (int cue = size + 1; cue <= 4; cue++) {
                String begin = "p015;l0" + ahead + "1;l0q" + cue;
                due("a longer CUE already", of(begin + ";l0r1;").mendOf(1), 0);
                due("a longer CUE already, the same again", of(begin + ";l0" + ahead + "1;").mendOf(1), -9);
            }
        }
        due("one word, others have more", of("p015;l0d1;l0q1;l0abcd1;").mendOf(1), -9);
        due("two words, one has fewer", of("p015;l0cd1;l0q1;l0d1;").mendOf(1), 1);
        due("all its words alike in one of more words", of("p015;l0cd1;l0q1;l0bcd1;").mendOf(1), -9);
        says("How many words of CUE more a LINE takes; -9 (LINE 0: 0)");
        due("LINE 0", written(1).mendOf(0), 0);
        due("LINE 0 of twelve alike", alike(12).mendOf(0), 0);
        due("LINE 11 of twelve alike", alike(12).mendOf(11), -9);
        due("LINE 11 of twelve", written(12).mendOf(11), 0);
    }

    /** Line 2 ends as line 0 does in so many words; line 1 has a cue of so many. */
    private static void mend(int cue, int alike) {
        String other = "wxyz".substring(alike) + "abcd".substring(4 - alike);
        EachOnHisCue x = of("p015;l0abcd1;l0q" + cue + ";l0" + other + "1;");
        int due = alike == 4 ? -9 : Math.max(0, alike + 1 - cue);
        due("cue " + cue + ", " + alike + " words alike", x.mendOf(1), due);
        due("all together", x.mend(), due);
        due("the cue stays", x.line(1, 2), cue);
    }

    private static void prompted() {
        says("PROMPTED: how many LINES (0 .. last less 1) there are behind which .. the next one would not be SAID");
        due("one line", written(1).prompted(), 0);
        due("twelve lines", written(12).prompted(), 0);
        due("all but the last of twelve", of("p415;" + "l0a1;".repeat(12)).prompted(), 11);
        due("the first alone", of("p015;p415;l0a1;l1b1;l0c1;").prompted(), 1);
        due("the last but one alone", of("p015;p415;l0a1;l0b1;l1c1;").prompted(), 1);
        due("what would come behind the last does not count", of("p015;p115;l0a1;l1a1;").prompted(), 0);
        due("who is dead by then", of("p015;l0a1;l0b1;l0c1!;l0d1;l0e1;").prompted(), 2);
    }

    private static void home() {
        says("HOME (9 LINES at most)");
        EachOnHisCue nine = written(9);
        due("home(0) of nine", nine.home(0), 43046721);
        due("home(1) of nine", nine.home(1), 100000000);
        due("home(0) of ten", written(10).home(0), 4000000000000000006L);
        due("home(1) of ten", written(10).home(1), 4000000000000000006L);
        due("home(0) of one", written(1).home(0), 1);
        due("home(1) of one", written(1).home(1), 1);
        says("each CUE is lost by LOSE hundredths (set; 10 at first): a fraction in least terms");
        due("at first", written(2).home(0) * 1000 + written(2).home(1), 9010);
        nine.lose(99);
        due("99 of nine, above", nine.home(0), 1);
        due("99 of nine, below", nine.home(1), 10000000000000000L);
        nine.lose(0);
        due("0 of nine, above", nine.home(0), 1);
        due("0 of nine, below", nine.home(1), 1);
        nine.lose(1);
        due("1 of nine, above", nine.home(0), 9227446944279201L);
        due("1 of nine, below", nine.home(1), 10000000000000000L);
        EachOnHisCue two = written(2);
        for (int lose = 0; lose <= 99; lose++) {
            two.lose(lose);
            int shared = 1;
            for (int d = 2; d <= 100; d++) {
                shared = (100 - lose) % d == 0 && 100 % d == 0 ? d : shared;
            }
            due("home(0) by " + lose, two.home(0), (100 - lose) / shared);
            due("home(1) by " + lose, two.home(1), 100 / shared);
        }
        says("0 by 1, if it is not WRITTEN");
        due("home(0)", alike(9).home(0), 0);
        due("home(1)", alike(9).home(1), 1);
        EachOnHisCue surely = of("p015;p415;l0a1;l1b1;");
        surely.lose(0);
        due("home(0), though no cue is lost", surely.home(0), 0);
        due("home(1), though no cue is lost", surely.home(1), 1);
        says("Of longs 4000000000000000000 less them");
        due("home(2)", nine.home(2), 4000000000000000002L);
        due("home(-1)", nine.home(-1), 4000000000000000002L);
        due("home(0) of a new object", new EachOnHisCue().home(0), 4000000000000000003L);
        due("home(2) of a new object", new EachOnHisCue().home(2), 4000000000000000002L);
    }

    private static void without() {
        says("WITHOUT one: how many LINES of the NIGHT, if that PLAYER were SICK");
        EachOnHisCue x = of(FIVE + "l0a1;l1b1;l2c1;l3d1;l4e1;");
        for (int p = 0; p <= 4; p++) {
            due("without(" + p + ")", x.without(p), p == 0 ? 5 : p);
            due("his kind stays", x.player(p, 0), 0);
        }
        due("one who is SICK", of("p015;p415;l0a1;l1b1;").without(1), 1);
        due("the only one", written(1).without(0), 1);
        due("a night that does not end", of("p115;p015;l0a1;l0a1;").without(1), 60);
        says("LEAST HARM: the PLAYER without whom most LINES are SAID, of several the least; -9 there is none");
        due("LINE 0 alone, five players", of(FIVE + "l4a1;").leastHarm(), 0);
        due("the last", of(FIVE + "l0a1;l1b1;l2c1;l3d1;l0e1;l1f1;l2g1;l3h1;").leastHarm(), 4);
        due("the first of two", of("p015;p015;p015;l0a1;l1b1;l2c1;l0d1;").leastHarm(), 0);
        due("one player", written(1).leastHarm(), 0);
    }

    private static void joke() {
        says("JOKE: a word more at its end (4 at most; what players listen for stays as it is)");
        EachOnHisCue x = of("p015;p015;l0abc1;l1d1;l0abcd1;");
        due("three words", x.joke(0, 2), 3);
        due("four words already", x.joke(2, 2), -6);
        due("the words stay", x.line(0, 1), 3);
        due("all words stay", x.count(4), 8);
        due("two words then", of("p015;p015;p415;l0b1;l2bc1;l1d2;").joke(0, 2), 2);
        due("no more than two", of("p015;p015;p415;l0b1;l2abc1;l1d3;").joke(0, 2), 1);
        says("a word (0 a .. 25 z)");
        for (int word = 0; word <= 25; word++) {
            // Line 1 listens for q, line 2, which a quicker one says, for the word of line 1.
            EachOnHisCue one = of("p015;p019;p015;l0q1;l2" + (char) ('a' + word) + "1;l1x1;");
            int another = (word + 1) % 26;
            due("word " + word, one.joke(0, word), 2);
            due("another word than " + word, one.joke(0, another), another == 'q' - 'a' ? 3 : 1);
        }
        due("in the last LINE, nobody listens", written(12).joke(11, 25), 12);
        due("in the last LINE, he hears it himself", of("p015;p115;l0a1;l1b1;").joke(1, 0), 60);
    }

    private static void stretched() {
        says("STRETCHED: if all CUES were a told number of words more (4 at most each)");
        // Player 2 is the quickest; he says line 3 on line 0, as long as he listens for fewer words than are alike.
        for (int alike = 1; alike <= 4; alike++) {
            for (int cue = 1; cue <= 4; cue++) {
                String other = "wxyz".substring(alike) + "abcd".substring(4 - alike);
                EachOnHisCue x = of("p015;p014;p019;l0abcd1;l1q1;l0" + other + "1;l2r" + cue + ";");
                for (int more = 0; more <= 3; more++) {
                    int due = Math.min(4, cue + more) <= alike ? 2 : 4;
                    due(alike + " alike, cue " + cue + ", " + more + " more", x.stretched(more), due);
                }
                due("the cue stays", x.line(3, 2), cue);
            }
        }
        due("one word ahead is enough", of("p015;l0a1;l0b4;").stretched(3), 2);
        due("fewer words than that do not cue", of("p015;p015;l0ab1;l1c1;l0b1;l1c1;l0b1;").stretched(1), 5);
        due("one line", written(1).stretched(3), 1);
        due("twelve lines", written(12).stretched(3), 12);
    }

    private static void parts() {
        says("PARTS: the fewest actors who can play all PLAYERS with LINES, so that none is two at once");
        due("a new object", new EachOnHisCue().parts(), 0);
        due("players alone", of(FIVE).parts(), 0);
        due("one line", written(1).parts(), 1);
        due("five, one behind the other", of(FIVE + "l0a1;l1a1;l2a1;l3a1;l4a1;").parts(), 1);
        due("five at once", of(FIVE + "l0a1;l1a1;l2a1;l3a1;l4a1;l0a1;l1a1;l2a1;l3a1;l4a1;").parts(), 5);
        due("one goes when the other comes", of("p015;p015;l0a1;l0a1;l1a1;l1a1;").parts(), 1);
        due("one goes behind the other's first", of("p015;p015;l0a1;l1a1;l0a1;l1a1;").parts(), 2);
        due("one line within", of("p015;p015;l0a1;l1a1;l0a1;").parts(), 2);
        due("SICK ones too", of("p415;p415;l0a1;l1a1;l0a1;").parts(), 2);
        due("twelve lines", written(12).parts(), 2);
        due("at once in the last lines alone", of("p015;p015;p015;" + "l0a1;".repeat(8) + "l1a1;l2a1;l1a1;l2a1;").parts(), 2);
    }

    private static void books() {
        says("BOOKS (7 LINES at most)");
        int[] due = {1, 1, 2, 6, 24, 120, 720};
        for (int n = 1; n <= 7; n++) {
            due("books() of " + n + " alike", alike(n).books(), due[n - 1]);
            due("books() of " + n, written(n).books(), 1);
        }
        due("books() of eight", written(8).books(), -6);
        due("book(0, 0) of eight", written(8).book(0, 0), -6);
        says("each but the first is CUED for its PLAYER by the one ahead of it (as in THE NET, but SICK ones as DEAF)");
        due("SICK ones", of("p415;l0a1;l0a1;l0a1;").books(), 2);
        due("the order that is written always is one", of("p015;p319;l0ab4;l1cde4;l0f2;").books(), 1);
        says("the i-th LINE of the k-th such order (by LINES one behind the other); -9 there is none such");
        List<int[]> orders = new ArrayList<>();
        for (int a = 1; a <= 3; a++) {
            for (int b = 1; b <= 3; b++) {
                if (a != b) {
                    orders.add(new int[] {0, a, b, 6 - a - b});
                }
            }
        }
        EachOnHisCue x = alike(4);
        for (int k = 0; k < 6; k++) {
            for (int i = 0; i < 4; i++) {
                due("book(" + k + ", " + i + ")", x.book(k, i), orders.get(k)[i]);
            }
            due("book(" + k + ", 4)", x.book(k, 4), -9);
            due("book(" + k + ", greatest)", x.book(k, Integer.MAX_VALUE), -9);
        }
        due("book(6, 0)", x.book(6, 0), -9);
        due("book(greatest, 0)", x.book(Integer.MAX_VALUE, 0), -9);
        due("book(6, 4)", x.book(6, 4), -9);
        due("one line, book(0, 0)", written(1).book(0, 0), 0);
        due("one line, book(0, 1)", written(1).book(0, 1), -9);
        due("one line, book(1, 0)", written(1).book(1, 0), -9);
        // 1 listens for a, 2 for b, 3 and 4 for a, 5 for c, which only 4 says: d can't be followed.
        EachOnHisCue some = of("p015;l0a1;l0b1;l0a1;l0a1;l0c1;l0d1;");
        int[][] two = {{0, 1, 2, 3, 4, 5}, {0, 3, 1, 2, 4, 5}};
        due("books()", some.books(), 2);
        for (int k = 0; k < 2; k++) {
            for (int i = 0; i < 6; i++) {
                due("book(" + k + ", " + i + ") of some", some.book(k, i), two[k][i]);
            }
        }
        due("book(2, 0) of some", some.book(2, 0), -9);
        EachOnHisCue seven = alike(7);
        for (int i = 0; i < 7; i++) {
            due("book(719, " + i + ")", seven.book(719, i), i == 0 ? 0 : 7 - i);
        }
        due("book(720, 0)", seven.book(720, 0), -9);
        due("book(719, 7)", seven.book(719, 7), -9);
    }

    private static void rows() {
        says("A ROW of LINES (0 .. 11; 12 at most)");
        EachOnHisCue x = written(12);
        for (int k = 0; k <= 11; k++) {
            due("row(" + k + ")", x.row(k), k + 1);
        }
        due("a thirteenth", x.row(0), -6);
        due("count(6)", x.count(6), 12);
        says("JUDGED as a NIGHT told from its beginning: the place (from 0) of the first; -9 (the ROW stays)");
        due("all twelve", x.judge(), -9);
        due("count(6)", x.count(6), 12);
        says("POSSIBLE: the place of the first that is not 0 at the beginning, or may not FOLLOW; -9 (the ROW has none then)");
        due("all twelve", x.possible(), -9);
        due("count(6)", x.count(6), 0);
        due("none", x.possible(), -9);
        due("none, judged", x.judge(), -9);
        for (int wrongAt = 0; wrongAt <= 11; wrongAt++) {
            for (int k = 0; k <= 11; k++) {
                x.row(k == wrongAt ? (k + 5) % 12 : k);
            }
            due("judge(), wrong at " + wrongAt, x.judge(), wrongAt);
            due("possible(), wrong at " + wrongAt, x.possible(), wrongAt);
            due("count(6)", x.count(6), 0);
        }
        EachOnHisCue few = written(2);
        row(few, 0, 1, 2);
        due("behind the end, judged", few.judge(), 2);
        due("behind the end", few.possible(), 2);
        row(few, 11);
        due("no such LINE at the beginning, judged", few.judge(), 0);
        due("no such LINE at the beginning", few.possible(), 0);
        row(few, 0, 0);
        due("0 twice, judged", few.judge(), 1);
        due("0 twice", few.possible(), 1);
        row(few, 1);
        due("1 at the beginning", few.possible(), 0);
        EachOnHisCue sick = of("p415;p015;l0a1;l0a1;l1a1;");
        row(sick, 0, 2, 2, 1, 2);
        due("a SICK one's LINE", sick.possible(), 3);
        EachOnHisCue ever = alike(2);
        row(ever, 0, 1, 1, 1, 1, 1, 1, 1, 1, 1, 1, 1);
        due("twelve of sixty, judged", ever.judge(), -9);
        due("twelve of sixty", ever.possible(), -9);
        EachOnHisCue none = new EachOnHisCue();
        due("without LINES, an empty ROW", none.possible(), -9);
        row(none, 1);
        due("without LINES, 1 at the beginning", none.possible(), 0);
        row(none, 0, 1);
        due("without LINES, nothing follows", none.possible(), 1);
        due("count(6)", none.count(6), 0);
    }

    private static int draw(int z, int n) {
        return (z & Integer.MAX_VALUE) / 65536 % n;
    }

    private static void lot() {
        says("LOT: n nights (1 .. 20) with a seed z, one behind the other");
        EachOnHisCue x = written(5);
        for (int n = 1; n <= 20; n++) {
            due("lot(" + n + ", 1)", x.lot(n, 1), 5 * n);
        }
        due("lot(0, 1)", x.lot(0, 1), -4);
        due("lot(21, 1)", x.lot(21, 1), -6);
        due("one line", written(1).lot(20, 9), 20);
        says("a DRAW below how many come in (by PLAYERS' numbers), if there are two at least");
        // Behind line 0 one comes in, behind line 1 two: players 2 (one line to say) and 3 (two lines).
        EachOnHisCue late = of("p015;p015;p010;p019;p419;l0a1;l1b1;l2c1;l4b1;l3d1;l3e1;");
        // Player 1 says lines 3 and 4, player 2 line 1: the first of two is player 1 all the same.
        EachOnHisCue order = of("p015;p010;p019;p419;l0a1;l2b1;l3a1;l1c1;l1d1;");
        // Player 0 says line 1, player 1 lines 3 and 4.
        EachOnHisCue too = of("p015;p011;p419;l0a1;l0b1;l2a1;l1c1;l1d1;");
        int[] some = {0, 1, 2, 3, 4, 5, 6, 7, -1, -2, -3, 99999, Integer.MAX_VALUE, Integer.MIN_VALUE};
        for (int z : some) {
            int first = z * 1103515245 + 12345;
            int second = first * 1103515245 + 12345;
            due("lot(1, " + z + "), the first draw", late.lot(1, z), 3 + draw(first, 2));
            due("lot(2, " + z + "), the second draw", late.lot(2, z), 6 + draw(first, 2) + draw(second, 2));
            due("lot(1, " + z + "), by players", order.lot(1, z), 3 - draw(first, 2));
            due("lot(1, " + z + "), PLAYER 0 too", too.lot(1, z), 2 + draw(first, 2));
        }
        says("DRAWS: z becomes z times 1103515245 and 12345 (an int), without its sign's bit by 65536, cut, modulo n");
        // Two or three players come in behind line 0; the k-th of them has k lines to say, and then nobody comes in.
        String[] pieces = {
            "p015;p019;p011;p419;l0a1;l1b1;l3a1;l2c1;l2d1;",
            "p015;p019;p011;p015;p419;l0a1;l1b1;l4a1;l2c1;l2d1;l4a1;l3e1;l3f1;l3g1;",
        };
        int[] seeds = {0, 1, -1, 7, 65535, 65536, 1 << 30, Integer.MAX_VALUE, Integer.MIN_VALUE, Integer.MIN_VALUE + 1,
            1103515245, -1103515245, 12345, -12345, 2147418112, 305419896};
        for (int k = 0; k < pieces.length; k++) {
            EachOnHisCue one = of(pieces[k]);
            for (int z : seeds) {
                int seed = z;
                int all = 0;
                for (int n = 1; n <= 20; n++) {
                    seed = seed * 1103515245 + 12345;
                    all += 2 + draw(seed, k + 2);
                    due("lot(" + n + ", " + z + ") of " + (k + 2), one.lot(n, z), all);
                }
            }
        }
        // z = 0: 12345 by 65536 is 0. z = 1: 1103527590 by 65536 is 16838.
        due("lot(1, 0) of three, on paper", of(pieces[1]).lot(1, 0), 2);
        due("lot(1, 1) of three, on paper", of(pieces[1]).lot(1, 1), 4);
        // z = -1: -1103502900, without its sign's bit 1043980748, by 65536 15929, modulo 3 is 2.
        due("lot(1, -1) of three, on paper", of(pieces[1]).lot(1, -1), 4);
        // z = 7: 7724619060 wraps around to -865315532, without its sign's bit 1282168116, by 65536 19564, modulo 3 is 1.
        due("lot(1, 7) of three, on paper", of(pieces[1]).lot(1, 7), 3);
        due("60 LINES each, two who come in ever again", of("p115;p515;l0a1;l1a1;l0a1;").lot(20, 3), 1200);
    }

    private static void images() {
        says("RESTORED: how many LINES there are. -3 there is none");
        EachOnHisCue x = new EachOnHisCue();
        due("restore()", x.restore(), -3);
        due("image() of nothing", x.image(), 0);
        due("restore() of nothing", x.restore(), 0);
        tell(x, FIVE + "l0a1;".repeat(11));
        tell(x, "l4a1!;");
        due("image() of twelve", x.image(), 12);
        x.restore();
        due("count(1)", x.count(1), 12);
        says("THE IMAGE: all that there is, but it, letters, the ROW, REFUSALS");
        EachOnHisCue y = of("p115;p216;l0ab1;l1b1!;");
        said(y, 0, 1);
        y.lose(1);
        due("image()", y.image(), 2);
        y.lose(2);
        y.again();
        y.cue(0, 4);
        y.cue(1, 4);
        y.speed(0, 9);
        y.speed(1, 0);
        tell(y, "p415;l2c1!;l1d1;l0e1;");
        y.feed('p');
        y.row(3);
        y.row(-1);
        due("restore()", y.restore(), 2);
        int[] due = {2, 2, 2, 1, 3, 1, 1, 1, -9, -9, -9, 0, 0, 0, 1, 0, 0};
        for (int what = 0; what < due.length; what++) {
            due("count(" + what + ")", y.count(what), due[what]);
        }
        due("cue of LINE 0", y.line(0, 2), 1);
        due("cue", y.line(1, 2), 1);
        due("haste of PLAYER 0", y.player(0, 2), 5);
        due("haste", y.player(1, 2), 13);
        due("dead", y.player(1, 4), 1);
        due("said", y.line(1, 4), 1);
        due("the third PLAYER", y.player(2, 0), -1);
        due("the third LINE", y.line(2, 0), -1);
        due("lines of a PLAYER", y.player(1, 3), 2);
        due("lines of another", y.player(0, 3), 1);
        y.again();
        due("restored twice", y.restore(), 2);
        due("said", y.count(2), 2);
        y.piece();
        due("another third LINE", tell(y, "l0f1;"), 1);
        due("it does not kill", y.line(2, 3), 0);
        due("whose it is", y.line(2, 0), 0);
        due("lines of a PLAYER", y.player(0, 3), 5);
        due("image() anew", y.image(), 3);
        due("restore() of the newer one", y.restore(), 3);
    }

    private static void count() {
        says("-9 for another what");
        EachOnHisCue x = written(3);
        for (int what : new int[] {-1, 8, 9, 10, 17, 18, 32, 33, -16, Integer.MIN_VALUE, Integer.MAX_VALUE}) {
            due("count(" + what + ")", x.count(what), -9);
        }
        for (int what = 11; what <= 16; what++) {
            due("count(" + what + "), nothing was refused", x.count(what), 0);
        }
        says("No PLAYERS, no LINES");
        EachOnHisCue none = new EachOnHisCue();
        int[] due = {0, 0, 0, -9, 0, 0, 0, 10};
        for (int what = 0; what <= 7; what++) {
            due("count(" + what + ")", none.count(what), due[what]);
        }
        says("2 how many were SAID now (each time), 3 the latest LINE");
        EachOnHisCue ever = alike(2);
        said(ever, 0, 1, 1);
        due("count(2)", ever.count(2), 3);
        due("count(3)", ever.count(3), 1);
        says("4 all WORDS");
        EachOnHisCue most = of("p015;" + "l0abcd1;".repeat(9), "l0abcd1;".repeat(3));
        due("count(4)", most.count(4), 48);
    }

    public static void main(String[] args) {
        calls512();
        players();
        lines();
        hears();
        cued();
        setNumbers();
        oneWordOrTwo();
        kinds();
        haste();
        sixty();
        letters();
        everyLetter();
        faults();
        now();
        goes();
        theNet();
        mend();
        prompted();
        home();
        without();
        joke();
        stretched();
        parts();
        books();
        rows();
        lot();
        images();
        count();
        System.out.println(looked + " looks at edges, " + wrong + " are not as due");
        if (wrong != 0) {
            System.exit(1);
        }
    }
}
