import java.util.function.LongSupplier;

/** Each promise by hand: ordinary inputs, the edges that the document names, wrong inputs. */
public final class PromiseTests {
    private static final String WRITTEN = "p015;p015;l0ab1;l1cd1;l0ef1;l1gh1;l0ij1;";
    private static final long LONG = 4000000000000000000L;

    private static int wrong = 0;
    private static int looked = 0;
    private static String promise = "";

    private static void due(String call, long got, long want) {
        looked++;
        if (got != want) {
            wrong++;
            System.out.println(promise + ": " + call + " answered " + got + ", due is " + want);
        }
    }

    private static int tell(EachOnHisCue x, String text) {
        for (int k = 0; k < text.length(); k++) {
            x.feed(text.charAt(k));
        }
        return x.piece();
    }

    private static EachOnHisCue of(String... pieces) {
        EachOnHisCue x = new EachOnHisCue();
        for (String text : pieces) {
            due("piece of " + text, tell(x, text), text.chars().filter(c -> c == ';').count());
        }
        return x;
    }

    /** All that can be asked without a refusal. */
    private static String state(EachOnHisCue x) {
        StringBuilder s = new StringBuilder();
        for (int what = 0; what <= 7; what++) {
            s.append(x.count(what)).append(' ');
        }
        for (int p = 0; p < x.count(0); p++) {
            for (int what = 0; what <= 4; what++) {
                s.append(x.player(p, what)).append(' ');
            }
        }
        for (int i = 0; i < x.count(1); i++) {
            for (int what = 0; what <= 4; what++) {
                s.append(x.line(i, what)).append(' ');
            }
            s.append(x.follow(i)).append(' ');
        }
        return s.toString();
    }

    private static void refused(EachOnHisCue x, String call, LongSupplier run, int number) {
        String before = state(x);
        int[] counted = new int[6];
        for (int k = 0; k < 6; k++) {
            counted[k] = x.count(11 + k);
        }
        long got = run.getAsLong();
        due(call, got, call.startsWith("home") ? LONG - number : number);
        for (int k = 0; k < 6; k++) {
            due("count(" + (11 + k) + ") behind " + call, x.count(11 + k), counted[k] + (k + 1 == -number ? 1 : 0));
        }
        due("what " + call + " leaves as it was", state(x).equals(before) ? 1 : 0, 1);
    }

    private static void night(EachOnHisCue x, int... lines) {
        for (int i = 0; i < lines.length; i++) {
            due("night(" + i + ")", x.night(i), lines[i]);
        }
        due("night(" + lines.length + ")", x.night(lines.length), -9);
        due("goes(0)", x.goes(0), lines.length);
    }

    private static void said(EachOnHisCue x, int... lines) {
        for (int line : lines) {
            due("say()", x.say(), line);
        }
    }

    private static void row(EachOnHisCue x, int... lines) {
        for (int line : lines) {
            x.row(line);
        }
    }

    private static void newObject() {
        promise = "1 a new object";
        EachOnHisCue x = new EachOnHisCue();
        int[] due = {0, 0, 0, -9, 0, 0, 0, 10, -9, -9, -9, 0, 0, 0, 0, 0, 0, -9};
        for (int what = 0; what < due.length; what++) {
            due("count(" + what + ")", x.count(what), due[what]);
        }
        refused(x, "player(0, 0)", () -> x.player(0, 0), -1);
        refused(x, "line(0, 0)", () -> x.line(0, 0), -1);
        tell(x, WRITTEN);
        x.lose(3);
        EachOnHisCue other = new EachOnHisCue();
        due("count(1) of another", other.count(1), 0);
        due("count(7) of another", other.count(7), 10);
    }

    private static void feed() {
        promise = "2 feed";
        EachOnHisCue x = new EachOnHisCue();
        due("feed(0)", x.feed(0), 1);
        due("feed(255)", x.feed(255), 2);
        refused(x, "feed(-1)", () -> x.feed(-1), -4);
        refused(x, "feed(256)", () -> x.feed(256), -6);
        refused(x, "feed(least)", () -> x.feed(Integer.MIN_VALUE), -4);
        refused(x, "feed(greatest)", () -> x.feed(Integer.MAX_VALUE), -6);
        for (int k = 3; k <= 80; k++) {
            due("feed(97)", x.feed(97), k);
        }
        refused(x, "feed(97) behind 80", () -> x.feed(97), -6);
        refused(x, "feed(-1) behind 80", () -> x.feed(-1), -4);
        due("count(5)", x.count(5), 80);
        due("piece()", x.piece(), -1000);
        due("feed(97) anew", x.feed(97), 1);
    }

    private static void fault(String text, int want) {
        EachOnHisCue x = of("p015;l0a1;l0b1;");
        x.say();
        for (int k = 0; k < text.length(); k++) {
            x.feed(text.charAt(k));
        }
        due("piece of " + text, x.piece(), want);
        due("letters left", x.count(5), 0);
        due("players", x.count(0), 1);
        due("lines", x.count(1), 2);
        due("said", x.count(2), 1);
        for (int what = 11; what <= 16; what++) {
            due("refusals of a fault", x.count(what), 0);
        }
    }

    private static void pieceFaultsOfLetters() {
        promise = "3 piece, faults of letters";
        fault("", -1000);
        fault("x", -1000);
        fault(";", -1000);
        fault("P015;", -1000);
        fault("p", -1001);
        fault("pa", -1001);
        fault("p;", -1001);
        fault("p0", -1002);
        fault("p01", -1003);
        fault("p015", -1004);
        fault("p0155;", -1004);
        fault("p015!;", -1004);
        fault("l", -1001);
        fault("la1;", -1001);
        fault("l0", -1002);
        fault("l01;", -1002);
        fault("l0A1;", -1002);
        fault("l0`1;", -1002);
        fault("l0{1;", -1002);
        fault("l0a", -1003);
        fault("l0a;", -1003);
        fault("l0a!;", -1003);
        fault("l0abcd", -1006);
        fault("l0abcde1;", -1006);
        fault("l0a1", -1004);
        fault("l0a12;", -1004);
        fault("l0a1!", -1005);
        fault("l0a1!!;", -1005);
        fault("l0a1;;", -1005);
        fault("l0a1;p", -1006);
        fault("l9a9;l0a1;x", -1010);
        fault("p/15;", -1001);
        fault("p:15;", -1001);
        fault("p01 ;", -1003);
        fault("p0 1;", -1002);
    }

    private static void pieceFaultsOfStatements() {
        promise = "3 piece, faults of statements";
        fault("p615;", -2000);
        fault("p915;", -2000);
        fault("p005;", -2000);
        fault("l1a1;", -2000);
        fault("l9a1;", -2000);
        fault("l0a0;", -2000);
        fault("l0a5;", -2000);
        fault("l0a9!;", -2000);
        fault("l0abcd1!;l0a1;l0a5;p615;", -2014);
        fault("l1a1;p015;", -2000);
        fault("p015;l2a1;", -2005);
        fault("p015;p015;p015;p015;p015;", -2020);
        fault("l0a1;l0a1;l0a1;l0a1;l0a1;l0a1;l0a1;l0a1;l0a1;l0a1;l0a1;", -2050);
    }

    private static void piece() {
        promise = "3 piece";
        EachOnHisCue x = new EachOnHisCue();
        due("two players, a line", tell(x, "p015;p519;l1abcd4!;"), 3);
        due("count(0)", x.count(0), 2);
        due("count(1)", x.count(1), 1);
        due("count(4)", x.count(4), 4);
        due("count(5)", x.count(5), 0);
        said(x, 0);
        due("dead now", x.player(1, 4), 1);
        due("a line more", tell(x, "l0z1;"), 1);
        due("count(1)", x.count(1), 2);
        due("nothing has been said", x.count(2), 0);
        due("none is the latest", x.count(3), -9);
        due("dead no more", x.player(1, 4), 0);
        due("said no more", x.line(0, 4), 0);
        due("a player and his line", tell(x, "p111;l2q1;"), 2);
        due("line(2, 0)", x.line(2, 0), 2);
        EachOnHisCue full = of("p019;p119;p299;p390;p411;l0a1;l1a1;l2a1;l3a1;l4a1;l0a1;l1a1;l2a1;l3a1;l4a1;", "l0a1;l0a1;");
        due("count(0)", full.count(0), 5);
        due("count(1)", full.count(1), 12);
        due("no room for a line", tell(full, "l0a1;"), -2000);
        due("no room for a player", tell(full, "p015;"), -2000);
    }

    private static void player() {
        promise = "4 player";
        EachOnHisCue x = of("p015;p126;p237;p348;p459;l0a1;l3b1;l0c1!;l1b1;");
        int[][] due = {{0, 1, 5, 5, 0}, {1, 2, 6, 8, 0}, {2, 3, 15, 0, 0}, {3, 4, 8, 2, 0}, {4, 5, 9, 0, 0}};
        for (int p = 0; p < 5; p++) {
            for (int what = 0; what < 5; what++) {
                due("player(" + p + ", " + what + ")", x.player(p, what), due[p][what]);
            }
        }
        said(x, 0, 1);
        due("player(0, 4) before", x.player(0, 4), 0);
        said(x, 2);
        due("player(0, 4) behind", x.player(0, 4), 1);
        due("player(1, 4)", x.player(1, 4), 0);
        refused(x, "player(5, 0)", () -> x.player(5, 0), -1);
        refused(x, "player(-1, 9)", () -> x.player(-1, 9), -1);
        refused(x, "player(0, 5)", () -> x.player(0, 5), -2);
        refused(x, "player(0, -1)", () -> x.player(0, -1), -2);
        EachOnHisCue keen = of("p590;p290;");
        due("kind of a KEEN", keen.player(0, 0), 5);
        due("figure of a KEEN", keen.player(0, 1), 9);
        due("haste of a KEEN", keen.player(0, 2), 0);
        due("haste of a QUICK without speed", keen.player(1, 2), 1);
        refused(keen, "player(2, 0)", () -> keen.player(2, 0), -1);
    }

    private static void line() {
        promise = "5 line";
        EachOnHisCue x = of("p015;p015;l0a1;l1bcde4!;l0fg3;l1hij2;");
        int[][] due = {{0, 1, 1, 0, 0}, {1, 4, 4, 1, 0}, {0, 2, 3, 0, 0}, {1, 3, 2, 0, 0}};
        for (int i = 0; i < 4; i++) {
            for (int what = 0; what < 5; what++) {
                due("line(" + i + ", " + what + ")", x.line(i, what), due[i][what]);
            }
        }
        said(x, 0, 1);
        due("line(0, 4)", x.line(0, 4), 1);
        due("line(1, 4)", x.line(1, 4), 1);
        due("line(2, 4)", x.line(2, 4), 0);
        refused(x, "line(4, 0)", () -> x.line(4, 0), -1);
        refused(x, "line(-1, 5)", () -> x.line(-1, 5), -1);
        refused(x, "line(3, 5)", () -> x.line(3, 5), -2);
        refused(x, "line(0, -1)", () -> x.line(0, -1), -2);
    }

    private static void cue() {
        promise = "6 cue";
        EachOnHisCue x = of("p015;p015;l0ab1;l1c1;l0b1;");
        due("cue(1, 4)", x.cue(1, 4), 1);
        due("cue(1, 2)", x.cue(1, 2), 4);
        due("line(1, 2)", x.line(1, 2), 2);
        due("follow(2): too few words now", x.follow(2), 0);
        due("cue(1, 1)", x.cue(1, 1), 2);
        due("follow(2)", x.follow(2), 2);
        due("cue(0, 3)", x.cue(0, 3), 1);
        refused(x, "cue(3, 0)", () -> x.cue(3, 0), -1);
        refused(x, "cue(-1, 9)", () -> x.cue(-1, 9), -1);
        refused(x, "cue(1, 0)", () -> x.cue(1, 0), -4);
        refused(x, "cue(1, 5)", () -> x.cue(1, 5), -6);
    }

    private static void speed() {
        promise = "7 speed";
        EachOnHisCue x = of("p015;p013;p214;l0a1;l1b1;l2a1;");
        due("speed(2, 0)", x.speed(2, 0), 4);
        due("player(2, 2)", x.player(2, 2), 1);
        due("speed(2, 9)", x.speed(2, 9), 0);
        due("player(2, 2)", x.player(2, 2), 19);
        due("speed(1, 7)", x.speed(1, 7), 3);
        due("player(1, 2)", x.player(1, 2), 7);
        refused(x, "speed(3, -1)", () -> x.speed(3, -1), -1);
        refused(x, "speed(-1, 0)", () -> x.speed(-1, 0), -1);
        refused(x, "speed(1, -1)", () -> x.speed(1, -1), -4);
        refused(x, "speed(1, 10)", () -> x.speed(1, 10), -6);
    }

    private static void lose() {
        promise = "8 lose";
        EachOnHisCue x = new EachOnHisCue();
        due("lose(0)", x.lose(0), 10);
        due("lose(99)", x.lose(99), 0);
        due("count(7)", x.count(7), 99);
        refused(x, "lose(-1)", () -> x.lose(-1), -4);
        refused(x, "lose(100)", () -> x.lose(100), -6);
    }

    private static void comes() {
        promise = "9 comes";
        EachOnHisCue x = of("p015;p015;p115;p515;l0a1;l1b1;l2a1;l3c1;l2a1;l3d1;");
        due("comes(1): nothing has been said", x.comes(1), -9);
        said(x, 0);
        due("comes(0) NEXT, none of his is left", x.comes(0), -9);
        due("comes(1) NEXT", x.comes(1), 1);
        due("comes(2) ANY, cued by b or c alone", x.comes(2), -9);
        due("comes(3) KEEN, the greatest", x.comes(3), 5);
        due("speed", x.speed(1, 9), 5);
        said(x, 1);
        due("comes(1) has said his line", x.comes(1), -9);
        due("comes(2)", x.comes(2), 2);
        said(x, 2);
        due("comes(1) again", x.comes(1), -9);
        due("comes(3)", x.comes(3), 5);
        refused(x, "comes(4)", () -> x.comes(4), -1);
        refused(x, "comes(-1)", () -> x.comes(-1), -1);
        EachOnHisCue none = new EachOnHisCue();
        refused(none, "comes(0)", () -> none.comes(0), -1);
    }

    private static void cued() {
        promise = "9, 14 CUED and HEARS";
        EachOnHisCue x = of("p015;p315;p325;l0abc1;l1d3;l0c1;l1e1;l0xbc1;l2f3;");
        // Line 1 listens for one word (DEAF, FIGURE 1), line 5 for two of three (FIGURE 2).
        due("follow(0)", x.follow(0), 1 << 1 | 1 << 3 | 1 << 5);
        due("follow(2): too few words for line 5", x.follow(2), 1 << 1 | 1 << 3);
        due("follow(4)", x.follow(4), 1 << 1 | 1 << 3 | 1 << 5);
        due("follow(1)", x.follow(1), 1 << 2);
        due("follow(3)", x.follow(3), 1 << 4);
        due("follow(5)", x.follow(5), 0);
        EachOnHisCue few = of("p015;p015;l0b1;l1c4;l0ab1;l1c4;l0b1;l1abcd1;");
        due("all of a short line ahead is enough", few.follow(2), 1 << 1 | 1 << 3 | 1 << 5);
        due("fewer words do not cue", few.follow(0), 1 << 1 | 1 << 5);
        EachOnHisCue order = of("p015;p015;l0ab1;l1c2;l0ba1;l1d1;");
        due("words in another order", order.follow(2), 1 << 3);
        EachOnHisCue deaf = of("p015;p395;l0xb1;l1c2;l0yb1;");
        due("a DEAF of great figure hears all", deaf.follow(2), 0);
    }

    private static void kinds() {
        promise = "9, 12 the kinds";
        String lines = "l0a1;l1b1;l0a1;l1c1;";
        night(of("p015;p015;" + lines), 0, 1, 2, 3);
        night(of("p015;p115;" + lines), 0, 1, 2, 1);
        night(of("p015;p215;" + lines), 0, 1, 2, 3);
        night(of("p015;p315;" + lines), 0, 1, 2, 3);
        night(of("p015;p415;" + lines), 0);
        night(of("p015;p515;" + lines), 0, 3);
        promise = "10, 12 haste";
        night(of("p015;p014;p015;l0a1;l1b1;l0a1;l2c1;"), 0, 3);
        night(of("p015;p015;p015;l0a1;l1x1;l0a1;l2c1;"), 0, 1, 2, 3);
        night(of("p015;p015;p214;l0a1;l1x1;l0a1;l2c1;"), 0, 3);
        night(of("p015;p015;p212;l0a1;l1x1;l0a1;l2c1;"), 0, 1, 2, 3);
        promise = "12 who is dead";
        night(of("p015;p116;l0a1;l1a1!;l0b1;l1c1;"), 0, 1, 2);
        night(of("p115;l0a1!;l0a1;l0a1;"), 0);
        night(of("p415;p015;l0a1;l1b1;l0a1;"), 0, 1);
    }

    private static void say() {
        promise = "10 say";
        EachOnHisCue x = of(WRITTEN);
        said(x, 0, 1, 2, 3, 4, -9, -9);
        due("count(2)", x.count(2), 5);
        EachOnHisCue round = of("p115;l0a1;l0a1;");
        said(round, 0);
        for (int k = 0; k < 70; k++) {
            said(round, 1);
        }
        due("count(2) goes beyond a night", round.count(2), 71);
        due("goes(0) does not", round.goes(0), 60);
        EachOnHisCue none = of("p015;");
        refused(none, "say()", none::say, -3);
        EachOnHisCue changed = of("p015;p015;p015;l0ab1;l1c1;l0ab1;l2d1;");
        said(changed, 0);
        changed.speed(2, 6);
        said(changed, 3);
    }

    private static void again() {
        promise = "11 again";
        EachOnHisCue x = of("p015;p015;l0a1;l1b1;l0c1!;");
        due("again() before all", x.again(), 0);
        said(x, 0, 1, 2);
        due("dead", x.player(0, 4), 1);
        due("again()", x.again(), 3);
        due("count(2)", x.count(2), 0);
        due("count(3)", x.count(3), -9);
        due("dead no more", x.player(0, 4), 0);
        due("said no more", x.line(2, 4), 0);
        said(x, 0);
        EachOnHisCue twice = of("p115;l0a1;l0a1;");
        said(twice, 0, 1, 1);
        due("said, though twice", twice.line(1, 4), 1);
        due("again() without lines", new EachOnHisCue().again(), 0);
    }

    private static void nights() {
        promise = "12 night";
        EachOnHisCue x = of(WRITTEN);
        said(x, 0, 1);
        night(x, 0, 1, 2, 3, 4);
        due("what is said now stays", x.count(2), 2);
        due("night(greatest)", x.night(Integer.MAX_VALUE), -9);
        refused(x, "night(-1)", () -> x.night(-1), -4);
        EachOnHisCue round = of("p115;l0a1;l0a1;");
        due("night(59)", round.night(59), 1);
        due("night(60)", round.night(60), -9);
        EachOnHisCue none = new EachOnHisCue();
        refused(none, "night(0)", () -> none.night(0), -3);
        refused(none, "night(-1)", () -> none.night(-1), -4);
    }

    private static void goes() {
        promise = "13 goes";
        EachOnHisCue x = of(WRITTEN);
        int[] due = {5, 0, 0, 1};
        for (int what = 0; what < 4; what++) {
            due("goes(" + what + ")", x.goes(what), due[what]);
        }
        // 0, then 1 (player 1 is dead then), 2 (player 0 too), 4 and not 3, and behind 4 nobody.
        EachOnHisCue leaps = of("p015;p116;p019;l0a1;l1a1!;l0b1!;l1b1;l2c1;");
        night(leaps, 0, 1, 2, 4);
        due("goes(1)", leaps.goes(1), 1);
        due("goes(2)", leaps.goes(2), 3);
        due("goes(3)", leaps.goes(3), 0);
        EachOnHisCue cut = of("p015;p015;l0a1;l1b1;l1c1;");
        due("as written to its end", cut.goes(3), 1);
        EachOnHisCue early = of("p015;p415;l0a1;l1b1;");
        due("not all of it", early.goes(3), 0);
        due("no leap", early.goes(1), 0);
        EachOnHisCue on = of("p115;l0a1;l0a1;");
        due("it does not end", on.goes(3), 0);
        due("how many", on.goes(0), 60);
        due("leaps", on.goes(1), 58);
        due("one line is as written", of("p015;l0a1;").goes(3), 1);
        due("dead by the only line", of("p015;p015;l1a1!;").goes(2), 2);
        refused(x, "goes(4)", () -> x.goes(4), -2);
        refused(x, "goes(-1)", () -> x.goes(-1), -2);
        EachOnHisCue none = new EachOnHisCue();
        refused(none, "goes(0)", () -> none.goes(0), -3);
        refused(none, "goes(4)", () -> none.goes(4), -2);
    }

    private static void follow() {
        promise = "14 follow";
        EachOnHisCue x = of("p015;p415;l0a1;l1a1;l0a1!;");
        due("follow(0): no line of a SICK one", x.follow(0), 4);
        said(x, 0);
        due("said or not", x.follow(0), 4);
        due("follow(1)", x.follow(1), 4);
        due("follow(2): itself", x.follow(2), 4);
        refused(x, "follow(3)", () -> x.follow(3), -1);
        refused(x, "follow(-1)", () -> x.follow(-1), -1);
    }

    private static void netOf(EachOnHisCue x, int... due) {
        for (int what = 0; what < 4; what++) {
            due("net(" + what + ")", x.net(what), due[what]);
        }
    }

    private static void net() {
        promise = "15 net";
        netOf(of(WRITTEN), 31, 4, 0, 1);
        netOf(of("p015;l0a1;"), 1, 0, 0, 1);
        // 0 -> 1, 3; 1 -> 2; 2 -> 1, 3; 3 -> none: a round 1, 2.
        netOf(of("p015;p015;l0a1;l1b1;l0a1;l1c1;"), 15, 1, 1, 0);
        // The last is not come to; the round of 1 and 2 is not come to either.
        netOf(of("p015;p415;l0a1;l1b1;l0a1;l1c1;"), 1, -9, 0, 0);
        // 0 -> 1 alone; 2 and 3 follow one another, but nobody comes to them.
        netOf(of("p015;p415;l0a1;l0b1;l1c1;l0d1;l0c1;l0e1;"), 3, -9, 0, 0);
        // 0 -> 1, 3; 1 -> 2; 2 -> 1, 3; 3 -> 4; 4 -> none.
        netOf(of("p015;p015;l0a1;l1b1;l0a1;l1c1;l0d1;"), 31, 2, 1, 0);
        // 0 -> 1, 3; 1, 3 -> 2, 4; 2 -> 1, 3; 4 -> 5.
        netOf(of("p015;p015;l0a1;l1b1;l0a1;l1b1;l0c1;l1d1;"), 63, 3, 1, 0);
        // The last is followed by itself.
        netOf(of("p015;p015;l0a1;l1a1;"), 3, 1, 1, 0);
        EachOnHisCue x = of(WRITTEN);
        refused(x, "net(4)", () -> x.net(4), -2);
        refused(x, "net(-1)", () -> x.net(-1), -2);
        EachOnHisCue none = new EachOnHisCue();
        refused(none, "net(3)", () -> none.net(3), -3);
        refused(none, "net(4)", () -> none.net(4), -2);
    }

    private static void mend() {
        promise = "16, 17 mend, mendOf";
        // Line 1 listens for c of abc, line 3 for c of xbc: one needs three words, the other too.
        EachOnHisCue x = of("p315;p415;l0abc1;l1d1;l0xbc1;l1e2;");
        due("mendOf(0)", x.mendOf(0), 0);
        due("mendOf(1)", x.mendOf(1), 2);
        due("mendOf(2)", x.mendOf(2), 0);
        due("mendOf(3)", x.mendOf(3), 1);
        due("mend()", x.mend(), 3);
        due("no cue has changed", x.line(1, 2), 1);
        EachOnHisCue cannot = of("p015;p015;l0ab1;l1c1;l0dab1;l1e1;");
        due("all words of the line ahead are not enough", cannot.mendOf(1), -9);
        due("mendOf(3)", cannot.mendOf(3), 2);
        due("mend()", cannot.mend(), -9);
        EachOnHisCue itself = of("p015;p015;l0ab1;l1ab1;");
        due("a line that cues itself", itself.mendOf(1), -9);
        EachOnHisCue longer = of("p015;p015;l0ab4;l1c4;l0b1;l1b4;");
        due("a cue beyond the line ahead", longer.mendOf(1), 0);
        due("not to be mended", longer.mendOf(3), -9);
        due("one line", of("p015;l0a1;").mend(), 0);
        refused(x, "mendOf(4)", () -> x.mendOf(4), -1);
        refused(x, "mendOf(-1)", () -> x.mendOf(-1), -1);
        EachOnHisCue none = new EachOnHisCue();
        refused(none, "mend()", none::mend, -3);
        refused(none, "mendOf(0)", () -> none.mendOf(0), -1);
    }

    private static void prompted() {
        promise = "18 prompted";
        due("as written", of(WRITTEN).prompted(), 0);
        // Player 1 is dead behind line 1, so nobody says line 3; line 2 is said.
        due("a dead one", of("p015;p015;l0a1;l1b1!;l0c1;l1d1;").prompted(), 1);
        due("a sick one", of("p015;p415;l0a1;l1b1;l0c1;l1d1;").prompted(), 2);
        EachOnHisCue dead = of("p015;p015;l0a1!;l1b1;l0c1!;l1d1;l0e1;");
        due("one who dies twice", dead.prompted(), 2);
        dead.goes(0);
        due("again", dead.prompted(), 2);
        EachOnHisCue last = of("p015;p015;l0a1;l1b1!;");
        last.goes(0);
        due("behind a night in mind", last.prompted(), 0);
        due("a quicker one", of("p015;p015;p019;l0a1;l1b1;l2b1;").prompted(), 0);
        due("a quicker one comes in first", of("p015;p015;p019;l0a1;l1a1;l2b1;").prompted(), 1);
        due("one line", of("p015;l0a1!;").prompted(), 0);
        EachOnHisCue x = of(WRITTEN);
        said(x, 0, 1, 2, 3, 4);
        due("what is said now does not matter", x.prompted(), 0);
        EachOnHisCue none = new EachOnHisCue();
        refused(none, "prompted()", none::prompted, -3);
    }

    private static void homeOf(EachOnHisCue x, int lose, long above, long below) {
        x.lose(lose);
        due("home(0) by " + lose, x.home(0), above);
        due("home(1) by " + lose, x.home(1), below);
    }

    private static void home() {
        promise = "19 home";
        EachOnHisCue x = of(WRITTEN);
        due("home(0) at first", x.home(0), 6561);
        due("home(1) at first", x.home(1), 10000);
        homeOf(x, 0, 1, 1);
        homeOf(x, 20, 256, 625);
        homeOf(x, 99, 1, 100000000);
        homeOf(x, 7, 74805201, 100000000);
        homeOf(of("p015;l0a1;"), 99, 1, 1);
        EachOnHisCue nine = of("p015;p015;l0a1;l1b1;l0c1;l1d1;l0e1;l1f1;l0g1;l1h1;l0i1;");
        homeOf(nine, 99, 1, 10000000000000000L);
        homeOf(nine, 1, 9227446944279201L, 10000000000000000L);
        homeOf(of("p015;p415;l0a1;l1b1;"), 10, 0, 1);
        tell(nine, "l1j1;");
        refused(nine, "home(0)", () -> nine.home(0), -6);
        refused(nine, "home(2)", () -> nine.home(2), -2);
        refused(x, "home(-1)", () -> x.home(-1), -2);
        EachOnHisCue none = new EachOnHisCue();
        refused(none, "home(1)", () -> none.home(1), -3);
        refused(none, "home(2)", () -> none.home(2), -2);
    }

    private static void without() {
        promise = "20, 21 without, leastHarm";
        EachOnHisCue x = of("p015;p015;p019;p011;l0a1;l1b1;l2c1;l0d1;l2e1;");
        due("without(0)", x.without(0), 3);
        due("without(1)", x.without(1), 1);
        due("without(2)", x.without(2), 2);
        due("without(3), who has no lines", x.without(3), 5);
        due("leastHarm()", x.leastHarm(), 3);
        due("goes as before", x.goes(0), 5);
        EachOnHisCue same = of("p015;p015;p015;l2a1;");
        due("leastHarm() of several", same.leastHarm(), 0);
        due("his first line is said all the same", same.without(2), 1);
        // Without the quick one who comes in too early it goes on longer.
        EachOnHisCue early = of("p015;p015;p219;l0a1;l1b1;l0c1;l1a1;l2x1;");
        due("with all", early.goes(0), 2);
        due("without(2)", early.without(2), 4);
        due("leastHarm()", early.leastHarm(), 2);
        refused(x, "without(4)", () -> x.without(4), -1);
        refused(x, "without(-1)", () -> x.without(-1), -1);
        EachOnHisCue none = of("p015;");
        refused(none, "without(0)", () -> none.without(0), -3);
        refused(none, "without(1)", () -> none.without(1), -1);
        refused(none, "leastHarm()", none::leastHarm, -3);
    }

    private static void joke() {
        promise = "22 joke";
        EachOnHisCue x = of("p015;p015;l0ab1;l1cd1;l0efg1;l1hijk1;");
        due("joke(0, 0)", x.joke(0, 0), 1);
        due("joke(0, 1): the same last word", x.joke(0, 1), 4);
        due("joke(1, 25)", x.joke(1, 25), 2);
        due("joke(2, 6)", x.joke(2, 6), 4);
        due("joke(2, 0)", x.joke(2, 0), 3);
        due("words stay", x.line(0, 1), 2);
        refused(x, "joke(4, 0)", () -> x.joke(4, 0), -1);
        refused(x, "joke(-1, -1)", () -> x.joke(-1, -1), -1);
        refused(x, "joke(0, -1)", () -> x.joke(0, -1), -4);
        refused(x, "joke(0, 26)", () -> x.joke(0, 26), -6);
        refused(x, "joke(3, 0)", () -> x.joke(3, 0), -6);
        refused(x, "joke(3, -1)", () -> x.joke(3, -1), -4);
        // Line 1 listens for b alone, all that line 0 has, though line 0 is said as b a: that cues line 2.
        EachOnHisCue stays = of("p015;p015;l0b1;l1a2;l0c1;");
        due("what is listened for stays", stays.joke(0, 0), 2);
        due("nobody is cued", stays.joke(0, 25), 1);
        due("joke(0, 1)", stays.joke(0, 1), 3);
        EachOnHisCue other = of("p015;p015;p015;l0b1;l1a1;l0c1;l2d1;");
        due("a joke that cues another", other.joke(0, 2), 2);
        EachOnHisCue both = of("p015;p015;p415;l0b1;l2bc1;l1d2;");
        due("it has two words then", both.joke(0, 2), 2);
        due("goes without it", both.goes(0), 1);
    }

    private static void stretched() {
        promise = "23 stretched";
        // Line 3 is quicker on line 0, till its cue is two words long.
        EachOnHisCue x = of("p015;p014;p019;l0ab1;l1c1;l0xb1;l2d1;");
        due("stretched(0)", x.stretched(0), 2);
        due("stretched(1)", x.stretched(1), 4);
        due("stretched(3)", x.stretched(3), 4);
        due("cues stay", x.line(3, 2), 1);
        EachOnHisCue deaf = of("p015;p014;p319;l0ab1;l1c1;l0xb1;l2d1;");
        due("a DEAF one hears no more", deaf.stretched(3), 2);
        EachOnHisCue four = of("p015;p015;l0abcd4;l1e4;");
        due("four at most", four.stretched(3), 2);
        refused(x, "stretched(-1)", () -> x.stretched(-1), -4);
        refused(x, "stretched(4)", () -> x.stretched(4), -6);
        EachOnHisCue none = new EachOnHisCue();
        refused(none, "stretched(0)", () -> none.stretched(0), -3);
        refused(none, "stretched(4)", () -> none.stretched(4), -6);
        refused(none, "stretched(-1)", () -> none.stretched(-1), -4);
    }

    private static void parts() {
        promise = "24 parts";
        due("nobody", new EachOnHisCue().parts(), 0);
        due("players without lines", of("p015;p015;").parts(), 0);
        due("one behind the other", of("p015;p415;p015;l0a1;l0a1;l1a1;l2a1;l2a1;").parts(), 1);
        due("one line", of("p015;p015;l1a1;").parts(), 1);
        due("two at once", of(WRITTEN).parts(), 2);
        due("0 .. 2, 1 .. 4, 3 .. 5", of("p015;p015;p015;l0a1;l1a1;l0a1;l2a1;l1a1;l2a1;").parts(), 2);
        due("one with all", of("p015;p015;p015;l0a1;l1a1;l2a1;l0a1;").parts(), 2);
        due("all at once", of("p015;p015;p015;p015;p015;l0a1;l1a1;l2a1;l3a1;l4a1;l0a1;l1a1;l2a1;", "l3a1;l4a1;").parts(), 5);
    }

    private static void books() {
        promise = "25, 26 books, book";
        EachOnHisCue x = of(WRITTEN);
        due("books()", x.books(), 1);
        for (int i = 0; i < 5; i++) {
            due("book(0, " + i + ")", x.book(0, i), i);
        }
        due("book(0, 5)", x.book(0, 5), -9);
        due("book(1, 0)", x.book(1, 0), -9);
        due("book(greatest)", x.book(Integer.MAX_VALUE, Integer.MAX_VALUE), -9);
        EachOnHisCue all = of("p415;p015;l0a1;l0a1;l1a1;l0a1;l1a1;l0a1;l1a1;");
        due("books(): SICK ones as DEAF", all.books(), 720);
        int[] last = {0, 6, 5, 4, 3, 2, 1};
        int[] some = {0, 1, 2, 3, 5, 4, 6};
        for (int i = 0; i < 7; i++) {
            due("book(719, " + i + ")", all.book(719, i), last[i]);
            due("book(2, " + i + ")", all.book(2, i), some[i]);
        }
        due("book(720, 0)", all.book(720, 0), -9);
        EachOnHisCue two = of("p015;p015;l0a1;l1b1;l0a1;l1a1;l0c1;l0d1;");
        // 0 a; 1 b on a; 2 a on b; 3 a on a; 4 c on a; 5 d on c: 0 1 2 3 4 5, 0 3 1 2 4 5.
        due("books()", two.books(), 2);
        due("book(1, 1)", two.book(1, 1), 3);
        due("book(1, 2)", two.book(1, 2), 1);
        due("one line", of("p015;l0a1;").books(), 1);
        due("its book", of("p015;l0a1;").book(0, 0), 0);
        tell(all, "l0a1;");
        refused(all, "books()", all::books, -6);
        refused(all, "book(0, 0)", () -> all.book(0, 0), -6);
        refused(all, "book(-1, 0)", () -> all.book(-1, 0), -4);
        refused(all, "book(0, -1)", () -> all.book(0, -1), -4);
        EachOnHisCue empty = new EachOnHisCue();
        refused(empty, "books()", empty::books, -3);
        refused(empty, "book(0, 0)", () -> empty.book(0, 0), -3);
        refused(empty, "book(-1, 0)", () -> empty.book(-1, 0), -4);
    }

    private static void rows() {
        promise = "27 row";
        EachOnHisCue x = new EachOnHisCue();
        due("row(11)", x.row(11), 1);
        refused(x, "row(-1)", () -> x.row(-1), -4);
        refused(x, "row(12)", () -> x.row(12), -6);
        for (int k = 2; k <= 12; k++) {
            due("row(0)", x.row(0), k);
        }
        refused(x, "row(0) behind 12", () -> x.row(0), -6);
        refused(x, "row(-1) behind 12", () -> x.row(-1), -4);
        due("count(6)", x.count(6), 12);
    }

    private static void judge() {
        promise = "28 judge";
        EachOnHisCue x = of(WRITTEN);
        due("an empty row", x.judge(), -9);
        row(x, 0, 1, 2);
        said(x, 0);
        due("judge() from the beginning", x.judge(), -9);
        due("the row stays", x.count(6), 3);
        due("what is said stays", x.count(2), 1);
        row(x, 4);
        due("judge()", x.judge(), 3);
        EachOnHisCue first = of(WRITTEN);
        row(first, 1, 2);
        due("not 0 first", first.judge(), 0);
        EachOnHisCue behind = of(WRITTEN);
        row(behind, 0, 1, 2, 3, 4, 11);
        due("behind the end", behind.judge(), 5);
        // Line 3 may follow in the net, but the quicker one says line 1.
        EachOnHisCue quick = of("p015;p015;p015;l0a1;l1b1;l0a1;l2c1;");
        row(quick, 0, 3);
        due("what would be said", quick.judge(), 1);
        due("what may follow", quick.possible(), -9);
        EachOnHisCue none = new EachOnHisCue();
        row(none, 0);
        refused(none, "judge()", none::judge, -3);
    }

    private static void possible() {
        promise = "29 possible";
        EachOnHisCue x = of(WRITTEN);
        due("an empty row", x.possible(), -9);
        row(x, 0, 1, 3);
        due("possible()", x.possible(), 2);
        due("the row has none then", x.count(6), 0);
        row(x, 0, 1, 2);
        due("possible()", x.possible(), -9);
        due("the row has none then", x.count(6), 0);
        row(x, 2, 3);
        due("not 0 at the beginning", x.possible(), 0);
        row(x, 0, 11);
        due("no such line", x.possible(), 1);
        EachOnHisCue sick = of("p015;p415;l0a1;l1a1;l0a1!;");
        row(sick, 0, 2, 2, 2, 1);
        due("said, dead does not matter; sick does", sick.possible(), 4);
        EachOnHisCue none = new EachOnHisCue();
        due("without lines", none.possible(), -9);
        row(none, 0, 0);
        due("0 first, then nothing follows", none.possible(), 1);
        for (int what = 11; what <= 16; what++) {
            due("count(" + what + ")", none.count(what), 0);
        }
    }

    private static void lot() {
        promise = "30 lot";
        due("nothing to draw", of(WRITTEN).lot(20, 5), 100);
        // Players 1, 2, 3 come in behind line 0 and have one, two, three lines to say then; a SICK one's lines part them.
        EachOnHisCue x = of("p015;p011;p019;p015;p419;l0a1;l1b1;l4a1;l2c1;l2d1;l4a1;l3e1;l3f1;l3g1;");
        for (int z : new int[] {0, 1, 7, -1, 123456789, Integer.MIN_VALUE, Integer.MAX_VALUE}) {
            for (int n : new int[] {1, 2, 20}) {
                due("lot(" + n + ", " + z + ")", x.lot(n, z), drawn(n, z));
            }
        }
        due("lot(1, 1), worked out on paper: 16838 modulo 3", x.lot(1, 1), 4);
        due("lot(1, 1) again", x.lot(1, 1), 4);
        due("what is said now", x.count(2), 0);
        // Two come in: with the first it has three lines, with the second two. The draws: 16838, 908, 17747, 1817.
        EachOnHisCue two = of("p015;p011;p019;p419;l0a1;l1b1;l1c1;l3a1;l2d1;");
        due("lot(1, 1) of two", two.lot(1, 1), 3);
        due("lot(1, 2) of two", two.lot(1, 2), 3);
        due("lot(1, 3) of two", two.lot(1, 3), 2);
        due("lot(1, 4) of two", two.lot(1, 4), 2);
        due("60 at most", of("p115;l0a1;l0a1;").lot(2, 3), 120);
        refused(x, "lot(0, 1)", () -> x.lot(0, 1), -4);
        refused(x, "lot(21, 1)", () -> x.lot(21, 1), -6);
        EachOnHisCue none = new EachOnHisCue();
        refused(none, "lot(1, 1)", () -> none.lot(1, 1), -3);
        refused(none, "lot(0, 1)", () -> none.lot(0, 1), -4);
        refused(none, "lot(21, 1)", () -> none.lot(21, 1), -6);
    }

    /** One draw a night: line 0, and one line more than the number drawn. */
    private static int drawn(int n, int z) {
        int all = 0;
        int seed = z;
        for (int k = 0; k < n; k++) {
            seed = seed * 1103515245 + 12345;
            all += 2 + (seed & Integer.MAX_VALUE) / 65536 % 3;
        }
        return all;
    }

    private static void image() {
        promise = "31, 32 image, restore";
        EachOnHisCue x = new EachOnHisCue();
        refused(x, "restore()", x::restore, -3);
        due("image() of nothing", x.image(), 0);
        tell(x, "p015;p116;l0a1;l1a1!;l0b1;");
        due("restore() of nothing", x.restore(), 0);
        due("count(0)", x.count(0), 0);
        due("count(1)", x.count(1), 0);
        tell(x, "p015;p116;l0a1;l1a1!;l0b1;");
        said(x, 0, 1);
        x.lose(33);
        due("image()", x.image(), 3);
        String then = state(x);
        said(x, 2);
        x.again();
        x.lose(44);
        x.cue(1, 4);
        x.speed(0, 9);
        tell(x, "p511;l2z1!;");
        due("restore()", x.restore(), 3);
        due("all is as it was", state(x).equals(then) ? 1 : 0, 1);
        due("dead", x.player(1, 4), 1);
        due("count(7)", x.count(7), 33);
        said(x, 2);
        x.speed(0, 8);
        due("restore() again", x.restore(), 3);
        due("all is as it was", state(x).equals(then) ? 1 : 0, 1);
        x.feed(97);
        x.row(3);
        x.row(99);
        int refusals = x.count(16);
        x.restore();
        due("letters stay", x.count(5), 1);
        due("the row stays", x.count(6), 1);
        due("refusals stay", x.count(16), refusals);
        x.piece();
        tell(x, "l0q1;");
        due("image() anew", x.image(), 4);
        x.restore();
        due("count(1)", x.count(1), 4);
        due("count(2)", x.count(2), 0);
        tell(x, "l0r1!;");
        due("it kills", x.line(4, 3), 1);
        x.restore();
        due("lines of player 0", x.player(0, 3), 13);
        tell(x, "l1s1;");
        due("another that does not", x.line(4, 3), 0);
        due("lines of player 0", x.player(0, 3), 13);
        due("lines of player 1", x.player(1, 3), 18);
    }

    private static void count() {
        promise = "33 count";
        EachOnHisCue x = of("p015;p115;l0ab1;l1cdf1;l0e1;");
        said(x, 0, 1, 2);
        x.row(1);
        x.feed(1);
        x.feed(2);
        x.lose(4);
        int[] due = {2, 3, 3, 2, 6, 2, 1, 4, -9, -9, -9, 0, 0, 0, 0, 0, 0, -9};
        for (int what = 0; what < due.length; what++) {
            due("count(" + what + ")", x.count(what), due[what]);
        }
        due("count(-1)", x.count(-1), -9);
        due("count(least)", x.count(Integer.MIN_VALUE), -9);
        due("count(greatest)", x.count(Integer.MAX_VALUE), -9);
        EachOnHisCue r = new EachOnHisCue();
        r.line(0, 0);
        r.goes(9);
        r.goes(9);
        r.say();
        r.say();
        r.say();
        r.feed(-1);
        r.row(12);
        r.home(7);
        int[] refusals = {1, 3, 3, 1, 0, 1};
        for (int k = 0; k < 6; k++) {
            due("count(" + (11 + k) + ")", r.count(11 + k), refusals[k]);
        }
        EachOnHisCue twice = of("p115;l0a1;l0a1;");
        said(twice, 0, 1, 1);
        due("each time", twice.count(2), 3);
        due("the latest", twice.count(3), 1);
    }

    /** Five players and twelve lines: every call at the greatest size. */
    private static void full() {
        promise = "all, with no room left";
        EachOnHisCue x = of("p015;p015;p015;p015;p015;l0a1;l1b1;l2c1;l3d1;l4e1;l0f1;l1g1;l2h1;l3i1;l4j1;", "l0k1;l1l1;");
        night(x, 0, 1, 2, 3, 4, 5, 6, 7, 8, 9, 10, 11);
        due("goes(3)", x.goes(3), 1);
        netOf(x, 4095, 11, 0, 1);
        due("follow(11)", x.follow(11), 0);
        due("follow(10)", x.follow(10), 2048);
        due("mend()", x.mend(), 0);
        due("mendOf(11)", x.mendOf(11), 0);
        due("prompted()", x.prompted(), 0);
        for (int p = 0; p < 5; p++) {
            due("without(" + p + ")", x.without(p), p == 0 ? 5 : p);
        }
        due("leastHarm()", x.leastHarm(), 0);
        due("joke(11, 25)", x.joke(11, 25), 12);
        due("stretched(3)", x.stretched(3), 12);
        due("parts()", x.parts(), 5);
        due("lot(20, 9)", x.lot(20, 9), 240);
        row(x, 0, 1, 2, 3, 4, 5, 6, 7, 8, 9, 10, 11);
        due("judge()", x.judge(), -9);
        due("possible()", x.possible(), -9);
        due("count(4)", x.count(4), 12);
        said(x, 0, 1, 2, 3, 4, 5, 6, 7, 8, 9, 10, 11, -9);
        due("comes(4)", x.comes(4), -9);
        due("image()", x.image(), 12);
        due("restore()", x.restore(), 12);
        refused(x, "home(0)", () -> x.home(0), -6);
        refused(x, "books()", x::books, -6);
        refused(x, "line(12, 0)", () -> x.line(12, 0), -1);
        refused(x, "player(5, 0)", () -> x.player(5, 0), -1);
    }

    public static void main(String[] args) {
        newObject();
        feed();
        pieceFaultsOfLetters();
        pieceFaultsOfStatements();
        piece();
        player();
        line();
        cue();
        speed();
        lose();
        comes();
        cued();
        kinds();
        say();
        again();
        nights();
        goes();
        follow();
        net();
        mend();
        prompted();
        home();
        without();
        joke();
        stretched();
        parts();
        books();
        rows();
        judge();
        possible();
        lot();
        image();
        count();
        full();
        System.out.println(looked + " answers by hand, " + wrong + " are not as due");
        if (wrong != 0) {
            System.exit(1);
        }
    }
}
