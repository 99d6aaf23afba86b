import java.math.BigInteger;
import java.util.ArrayList;
import java.util.Arrays;
import java.util.List;
import java.util.Random;
import java.util.TreeSet;
import java.util.regex.Matcher;
import java.util.regex.Pattern;

/** Long runs of calls by lot, each answer held against a plainer program for the same document. */
public final class ModelTests {
    private static final int RUNS = 6000;
    private static final int CALLS = 512;

    /** The document once more, with texts and lists, and nothing kept that can be worked out. */
    private static final class Model implements Cloneable {
        record Player(int kind, int figure, int speed) { }

        record Line(int player, String words, int cue, boolean kills) { }

        static final Pattern PIECE = Pattern.compile("(p[0-9]{3};|l[0-9][a-z]{1,4}[0-9]!?;)+");

        List<Player> players = new ArrayList<>();
        List<Line> lines = new ArrayList<>();
        List<Integer> now = new ArrayList<>();
        int lose = 10;
        String letters = "";
        List<Integer> row = new ArrayList<>();
        Model image = null;
        int[] refusals = new int[7];

        int refuse(int number) {
            refusals[-number]++;
            return number;
        }

        Model copy() {
            Model m = new Model();
            m.players = new ArrayList<>(players);
            m.lines = new ArrayList<>(lines);
            m.now = new ArrayList<>(now);
            m.lose = lose;
            return m;
        }

        boolean noPlayer(int p) {
            return p < 0 || p >= players.size();
        }

        boolean noLine(int i) {
            return i < 0 || i >= lines.size();
        }

        int feed(int letter) {
            if (letter < 0) return refuse(-4);
            if (letter > 255) return refuse(-6);
            if (letters.length() == 80) return refuse(-6);
            letters += (char) letter;
            return letters.length();
        }

        int piece() {
            String text = letters;
            letters = "";
            for (int k = 1; k <= text.length(); k++) {
                Matcher m = PIECE.matcher(text.substring(0, k));
                if (!m.matches() && !m.hitEnd()) return -1000 - (k - 1);
            }
            if (!PIECE.matcher(text).matches()) return -1000 - text.length();
            Model then = copy();
            int place = 0;
            String[] statements = text.split(";");
            for (String s : statements) {
                if (!then.take(s)) return -2000 - place;
                place += s.length() + 1;
            }
            players = then.players;
            lines = then.lines;
            now.clear();
            return statements.length;
        }

        boolean take(String s) {
            if (s.charAt(0) == 'p') {
                Player p = new Player(s.charAt(1) - '0', s.charAt(2) - '0', s.charAt(3) - '0');
                if (p.kind > 5 || p.figure == 0 || players.size() == 5) return false;
                players.add(p);
                return true;
            }
            boolean kills = s.endsWith("!");
            String t = kills ? s.substring(0, s.length() - 1) : s;
            Line l = new Line(t.charAt(1) - '0', t.substring(2, t.length() - 1), t.charAt(t.length() - 1) - '0', kills);
            if (noPlayer(l.player) || l.cue < 1 || l.cue > 4 || lines.size() == 12) return false;
            lines.add(l);
            return true;
        }

        int haste(int p) {
            Player one = players.get(p);
            return one.kind == 2 ? 2 * one.speed + 1 : one.speed;
        }

        boolean sick(int p) {
            return players.get(p).kind == 4;
        }

        static String last(String words, int n) {
            return words.substring(Math.max(0, words.length() - n));
        }

        boolean cued(String heard, int j, int more, boolean hearAll) {
            if (j == 0) return false;
            Line l = lines.get(j);
            Player p = players.get(l.player);
            int n = Math.min(4, l.cue + more);
            if (!hearAll && (p.kind == 3 || p.kind == 4)) n = Math.min(n, p.figure);
            return heard.endsWith(last(lines.get(j - 1).words, n));
        }

        /** A night may be one without somebody, with a joke, with cues made longer. */
        static final class Night {
            int without = -1;
            int jokeAt = -1;
            String joke = "";
            int more = 0;
        }

        String spoken(Night n, int i) {
            return i == n.jokeAt ? lines.get(i).words + n.joke : lines.get(i).words;
        }

        TreeSet<Integer> dead(List<Integer> said) {
            TreeSet<Integer> all = new TreeSet<>();
            for (int i : said) if (lines.get(i).kills) all.add(lines.get(i).player);
            return all;
        }

        int comesIn(Night n, List<Integer> said, int p) {
            if (said.isEmpty() || dead(said).contains(p) || p == n.without) return -9;
            String heard = spoken(n, said.get(said.size() - 1));
            List<Integer> unsaid = new ArrayList<>();
            List<Integer> cued = new ArrayList<>();
            for (int j = 0; j < lines.size(); j++) {
                if (lines.get(j).player != p) continue;
                if (!said.contains(j)) unsaid.add(j);
                if (cued(heard, j, n.more, false)) cued.add(j);
            }
            switch (players.get(p).kind) {
                case 4: return -9;
                case 1: return cued.isEmpty() ? -9 : cued.get(0);
                case 5: return cued.isEmpty() ? -9 : cued.get(cued.size() - 1);
                default: return !unsaid.isEmpty() && cued.contains(unsaid.get(0)) ? unsaid.get(0) : -9;
            }
        }

        int next(Night n, List<Integer> said) {
            if (said.isEmpty()) return 0;
            int best = -1;
            for (int p = 0; p < players.size(); p++) {
                if (comesIn(n, said, p) != -9 && (best < 0 || haste(p) > haste(best))) best = p;
            }
            return best < 0 ? -9 : comesIn(n, said, best);
        }

        List<Integer> nightOf(Night n) {
            List<Integer> said = new ArrayList<>();
            while (said.size() < 60) {
                int j = next(n, said);
                if (j == -9) break;
                said.add(j);
            }
            return said;
        }

        int player(int p, int what) {
            if (noPlayer(p)) return refuse(-1);
            switch (what) {
                case 0: return players.get(p).kind;
                case 1: return players.get(p).figure;
                case 2: return haste(p);
                case 3: {
                    int bits = 0;
                    for (int i = 0; i < lines.size(); i++) if (lines.get(i).player == p) bits += 1 << i;
                    return bits;
                }
                case 4: return dead(now).contains(p) ? 1 : 0;
                default: return refuse(-2);
            }
        }

        int line(int i, int what) {
            if (noLine(i)) return refuse(-1);
            Line l = lines.get(i);
            switch (what) {
                case 0: return l.player;
                case 1: return l.words.length();
                case 2: return l.cue;
                case 3: return l.kills ? 1 : 0;
                case 4: return now.contains(i) ? 1 : 0;
                default: return refuse(-2);
            }
        }

        int cue(int i, int c) {
            if (noLine(i)) return refuse(-1);
            if (c < 1) return refuse(-4);
            if (c > 4) return refuse(-6);
            Line l = lines.get(i);
            lines.set(i, new Line(l.player, l.words, c, l.kills));
            return l.cue;
        }

        int speed(int p, int v) {
            if (noPlayer(p)) return refuse(-1);
            if (v < 0) return refuse(-4);
            if (v > 9) return refuse(-6);
            Player one = players.get(p);
            players.set(p, new Player(one.kind, one.figure, v));
            return one.speed;
        }

        int lose(int v) {
            if (v < 0) return refuse(-4);
            if (v > 99) return refuse(-6);
            int was = lose;
            lose = v;
            return was;
        }

        int comes(int p) {
            return noPlayer(p) ? refuse(-1) : comesIn(new Night(), now, p);
        }

        int say() {
            if (lines.isEmpty()) return refuse(-3);
            int j = next(new Night(), now);
            if (j != -9) now.add(j);
            return j;
        }

        int again() {
            int had = now.size();
            now.clear();
            return had;
        }

        int night(int i) {
            if (i < 0) return refuse(-4);
            if (lines.isEmpty()) return refuse(-3);
            List<Integer> said = nightOf(new Night());
            return i < said.size() ? said.get(i) : -9;
        }

        boolean written() {
            List<Integer> said = nightOf(new Night());
            for (int i = 0; i < said.size(); i++) if (said.get(i) != i) return false;
            return said.size() == lines.size();
        }

        int goes(int what) {
            if (what < 0 || what > 3) return refuse(-2);
            if (lines.isEmpty()) return refuse(-3);
            List<Integer> said = nightOf(new Night());
            int answer = 0;
            switch (what) {
                case 0: return said.size();
                case 1:
                    for (int k = 1; k < said.size(); k++) if (said.get(k) != said.get(k - 1) + 1) answer++;
                    return answer;
                case 2:
                    for (int p : dead(said)) answer += 1 << p;
                    return answer;
                default: return written() ? 1 : 0;
            }
        }

        boolean mayFollow(int i, int j) {
            return !noLine(i) && !noLine(j) && !sick(lines.get(j).player) && cued(lines.get(i).words, j, 0, false);
        }

        int follow(int i) {
            if (noLine(i)) return refuse(-1);
            int bits = 0;
            for (int j = 0; j < lines.size(); j++) if (mayFollow(i, j)) bits += 1 << j;
            return bits;
        }

        int net(int what) {
            if (what < 0 || what > 3) return refuse(-2);
            if (lines.isEmpty()) return refuse(-3);
            int n = lines.size();
            int far = 1000;
            int[][] steps = new int[n][n];
            for (int i = 0; i < n; i++) for (int j = 0; j < n; j++) steps[i][j] = mayFollow(i, j) ? 1 : far;
            for (int k = 0; k < n; k++) {
                for (int i = 0; i < n; i++) {
                    for (int j = 0; j < n; j++) steps[i][j] = Math.min(steps[i][j], steps[i][k] + steps[k][j]);
                }
            }
            int bits = 1;
            int round = 0;
            int sure = 1;
            for (int i = 0; i < n; i++) {
                boolean reached = i == 0 || steps[0][i] < far;
                if (reached) bits |= 1 << i;
                if (reached && steps[i][i] < far) round = 1;
                for (int j = 0; j < n; j++) if (mayFollow(i, j) != (j == i + 1)) sure = 0;
            }
            switch (what) {
                case 0: return bits;
                case 1: return n == 1 ? 0 : steps[0][n - 1] < far ? steps[0][n - 1] : -9;
                case 2: return round;
                default: return sure;
            }
        }

        int mendOf(int j) {
            if (noLine(j)) return refuse(-1);
            if (j == 0) return 0;
            for (int more = 0; more <= 3; more++) {
                if (more > 0 && lines.get(j).cue + more > lines.get(j - 1).words.length()) return -9;
                boolean clash = false;
                for (int i = 0; i < lines.size(); i++) clash |= i != j - 1 && cued(lines.get(i).words, j, more, true);
                if (!clash) return more;
            }
            return -9;
        }

        int mend() {
            if (lines.isEmpty()) return refuse(-3);
            int all = 0;
            for (int j = 0; j < lines.size(); j++) {
                if (mendOf(j) == -9) return -9;
                all += mendOf(j);
            }
            return all;
        }

        int prompted() {
            if (lines.isEmpty()) return refuse(-3);
            int all = 0;
            List<Integer> said = new ArrayList<>();
            for (int k = 0; k + 1 < lines.size(); k++) {
                said.add(k);
                if (next(new Night(), said) != k + 1) all++;
            }
            return all;
        }

        long home(int part) {
            if (part != 0 && part != 1) return 4000000000000000000L - refuse(-2);
            if (lines.isEmpty()) return 4000000000000000000L - refuse(-3);
            if (lines.size() > 9) return 4000000000000000000L - refuse(-6);
            if (!written()) return part;
            BigInteger above = BigInteger.valueOf(100 - lose).pow(lines.size() - 1);
            BigInteger below = BigInteger.valueOf(100).pow(lines.size() - 1);
            BigInteger shared = above.gcd(below);
            return (part == 0 ? above : below).divide(shared).longValueExact();
        }

        int without(int p) {
            if (noPlayer(p)) return refuse(-1);
            if (lines.isEmpty()) return refuse(-3);
            Model m = copy();
            Player one = players.get(p);
            m.players.set(p, new Player(4, one.figure, one.speed));
            return m.nightOf(new Night()).size();
        }

        int leastHarm() {
            if (lines.isEmpty()) return refuse(-3);
            int best = -9;
            for (int p = players.size() - 1; p >= 0; p--) if (best == -9 || without(p) >= without(best)) best = p;
            return best;
        }

        int joke(int i, int word) {
            if (noLine(i)) return refuse(-1);
            if (word < 0) return refuse(-4);
            if (word > 25 || lines.get(i).words.length() == 4) return refuse(-6);
            Night n = new Night();
            n.jokeAt = i;
            n.joke = "" + (char) ('a' + word);
            return nightOf(n).size();
        }

        int stretched(int more) {
            if (more < 0) return refuse(-4);
            if (more > 3) return refuse(-6);
            if (lines.isEmpty()) return refuse(-3);
            Night n = new Night();
            n.more = more;
            return nightOf(n).size();
        }

        /** All ways to give the players to so many actors, tried one by one. */
        int parts() {
            List<int[]> spans = new ArrayList<>();
            for (int p = 0; p < players.size(); p++) {
                int[] span = {99, -1};
                for (int i = 0; i < lines.size(); i++) {
                    if (lines.get(i).player == p) span = new int[] {Math.min(span[0], i), i};
                }
                if (span[1] >= 0) spans.add(span);
            }
            for (int actors = 0; ; actors++) if (canPlay(spans, new int[spans.size()], 0, actors)) return actors;
        }

        static boolean canPlay(List<int[]> spans, int[] by, int at, int actors) {
            if (at == spans.size()) return true;
            for (int a = 0; a < actors; a++) {
                boolean free = true;
                for (int k = 0; k < at; k++) {
                    boolean apart = spans.get(k)[1] < spans.get(at)[0] || spans.get(at)[1] < spans.get(k)[0];
                    if (by[k] == a && !apart) free = false;
                }
                by[at] = a;
                if (free && canPlay(spans, by, at + 1, actors)) return true;
            }
            return false;
        }

        List<List<Integer>> allBooks() {
            List<List<Integer>> all = new ArrayList<>();
            List<Integer> order = new ArrayList<>();
            order.add(0);
            grow(order, all);
            return all;
        }

        void grow(List<Integer> order, List<List<Integer>> all) {
            if (order.size() == lines.size()) {
                boolean fits = true;
                for (int k = 1; k < order.size(); k++) {
                    fits &= cued(lines.get(order.get(k - 1)).words, order.get(k), 0, false);
                }
                if (fits) all.add(new ArrayList<>(order));
                return;
            }
            for (int j = 1; j < lines.size(); j++) {
                if (order.contains(j)) continue;
                order.add(j);
                grow(order, all);
                order.remove(order.size() - 1);
            }
        }

        int books() {
            if (lines.isEmpty()) return refuse(-3);
            if (lines.size() > 7) return refuse(-6);
            return allBooks().size();
        }

        int book(int k, int i) {
            if (k < 0 || i < 0) return refuse(-4);
            if (lines.isEmpty()) return refuse(-3);
            if (lines.size() > 7) return refuse(-6);
            List<List<Integer>> all = allBooks();
            return k < all.size() && i < lines.size() ? all.get(k).get(i) : -9;
        }

        int row(int i) {
            if (i < 0) return refuse(-4);
            if (i > 11 || row.size() == 12) return refuse(-6);
            row.add(i);
            return row.size();
        }

        int judge() {
            if (lines.isEmpty()) return refuse(-3);
            List<Integer> night = nightOf(new Night());
            for (int k = 0; k < row.size(); k++) {
                if (k >= night.size() || !night.get(k).equals(row.get(k))) return k;
            }
            return -9;
        }

        int possible() {
            List<Integer> was = row;
            row = new ArrayList<>();
            for (int k = 0; k < was.size(); k++) {
                if (k == 0 ? was.get(0) != 0 : !mayFollow(was.get(k - 1), was.get(k))) return k;
            }
            return -9;
        }

        int lot(int n, int z) {
            if (n < 1) return refuse(-4);
            if (n > 20) return refuse(-6);
            if (lines.isEmpty()) return refuse(-3);
            BigInteger seed = BigInteger.valueOf(z);
            int all = 0;
            for (int k = 0; k < n; k++) {
                List<Integer> said = new ArrayList<>(List.of(0));
                while (said.size() < 60) {
                    List<Integer> with = new ArrayList<>();
                    for (int p = 0; p < players.size(); p++) {
                        int j = comesIn(new Night(), said, p);
                        if (j != -9) with.add(j);
                    }
                    if (with.isEmpty()) break;
                    int drawn = 0;
                    if (with.size() > 1) {
                        seed = seed.multiply(BigInteger.valueOf(1103515245)).add(BigInteger.valueOf(12345));
                        drawn = seed.mod(BigInteger.ONE.shiftLeft(31)).shiftRight(16).intValue() % with.size();
                    }
                    said.add(with.get(drawn));
                }
                all += said.size();
            }
            return all;
        }

        int image() {
            image = copy();
            return lines.size();
        }

        int restore() {
            if (image == null) return refuse(-3);
            Model was = image.copy();
            players = was.players;
            lines = was.lines;
            now = was.now;
            lose = was.lose;
            return lines.size();
        }

        int count(int what) {
            switch (what) {
                case 0: return players.size();
                case 1: return lines.size();
                case 2: return now.size();
                case 3: return now.isEmpty() ? -9 : now.get(now.size() - 1);
                case 4: return lines.stream().mapToInt(l -> l.words.length()).sum();
                case 5: return letters.length();
                case 6: return row.size();
                case 7: return lose;
                case 11: case 12: case 13: case 14: case 15: case 16: return refusals[what - 10];
                default: return -9;
            }
        }
    }

    private static int wrong = 0;
    private static long calls = 0;

    private final Random lots;
    private final int run;
    private final EachOnHisCue x = new EachOnHisCue();
    private final Model m = new Model();
    private final List<String> told = new ArrayList<>();

    private ModelTests(int run) {
        this.run = run;
        this.lots = new Random(run * 7919L + 17);
    }

    private boolean due(String call, long got, long want) {
        calls++;
        told.add(call + " = " + want);
        if (got == want) return true;
        wrong++;
        System.out.println("run " + run + ": " + call + " answered " + got + ", due is " + want);
        System.out.println("  after " + String.join(", ", told));
        return false;
    }

    private int upTo(int greatest) {
        return lots.nextInt(greatest + 1);
    }

    /** Mostly within the range, now and then at or beyond its ends. */
    private int near(int least, int greatest) {
        switch (upTo(19)) {
            case 0: return least - 1;
            case 1: return greatest + 1;
            case 2: return Arrays.asList(Integer.MIN_VALUE, Integer.MAX_VALUE, -1, 32, 33, 64, 1 << 31).get(upTo(6));
            default: return least + upTo(greatest - least);
        }
    }

    private String words(int style) {
        StringBuilder s = new StringBuilder();
        int n = 1 + upTo(3);
        for (int k = 0; k < n; k++) s.append((char) ('a' + upTo(style)));
        return s.toString();
    }

    private String playerText(int kinds) {
        int kind = kinds < 6 ? kinds : upTo(5);
        return "p" + kind + (1 + upTo(lots.nextBoolean() ? 2 : 8)) + upTo(9) + ";";
    }

    private String pieceText() {
        StringBuilder s = new StringBuilder();
        int kinds = upTo(9);
        int style = Arrays.asList(0, 1, 1, 2, 3, 25).get(upTo(5));
        int players = m.players.size();
        int more = upTo(4);
        for (int k = 0; k < more && players < 5; k++) {
            s.append(playerText(kinds));
            players++;
        }
        int lines = upTo(11);
        for (int k = 0; k < lines; k++) {
            int who = players == 0 ? 0 : lots.nextInt(3) == 0 ? upTo(players - 1) : k % players;
            String kills = lots.nextInt(12) == 0 ? "!" : "";
            String t = "l" + who + words(style) + (1 + upTo(lots.nextBoolean() ? 0 : 3)) + kills + ";";
            if (s.length() + t.length() <= 80) s.append(t);
        }
        if (lots.nextInt(4) == 0) spoil(s);
        return s.toString();
    }

    private void spoil(StringBuilder s) {
        String signs = "pl0123456789abz!;;Ax{`/:";
        for (int k = upTo(2); k >= 0 && s.length() > 0; k--) {
            int at = upTo(s.length() - 1);
            char sign = signs.charAt(upTo(signs.length() - 1));
            switch (upTo(3)) {
                case 0: s.setCharAt(at, sign); break;
                case 1: s.insert(at, sign); break;
                case 2: s.deleteCharAt(at); break;
                default:
                    if (Character.isDigit(s.charAt(at))) s.setCharAt(at, (char) ('0' + upTo(9)));
            }
        }
    }

    private boolean tellPiece() {
        for (char c : pieceText().toCharArray()) {
            if (!due("feed(" + (int) c + ")", x.feed(c), m.feed(c))) return false;
        }
        return due("piece()", x.piece(), m.piece());
    }

    private boolean tellRow() {
        Model.Night plain = new Model.Night();
        List<Integer> night = m.lines.isEmpty() ? List.of(0, 1) : m.nightOf(plain);
        int n = upTo(13);
        for (int k = 0; k < n; k++) {
            int i = k < night.size() && lots.nextInt(8) != 0 ? night.get(k) : near(0, 11);
            if (!due("row(" + i + ")", x.row(i), m.row(i))) return false;
        }
        return due("judge()", x.judge(), m.judge());
    }

    private boolean callByLot() {
        int a;
        int b;
        switch (upTo(36)) {
            case 0: return tellPiece();
            case 1: a = near(0, 255); return due("feed(" + a + ")", x.feed(a), m.feed(a));
            case 2: return lots.nextInt(3) != 0 || due("piece()", x.piece(), m.piece());
            case 3: a = near(0, 4); b = near(0, 4);
                return due("player(" + a + ", " + b + ")", x.player(a, b), m.player(a, b));
            case 4: a = near(0, 11); b = near(0, 4);
                return due("line(" + a + ", " + b + ")", x.line(a, b), m.line(a, b));
            case 5: a = near(0, 11); b = near(1, 4); return due("cue(" + a + ", " + b + ")", x.cue(a, b), m.cue(a, b));
            case 6: a = near(0, 4); b = near(0, 9);
                return due("speed(" + a + ", " + b + ")", x.speed(a, b), m.speed(a, b));
            case 7: a = near(0, 99); return due("lose(" + a + ")", x.lose(a), m.lose(a));
            case 8: a = near(0, 4); return due("comes(" + a + ")", x.comes(a), m.comes(a));
            case 9: case 10: case 11: return due("say()", x.say(), m.say());
            case 12: return lots.nextInt(4) != 0 || due("again()", x.again(), m.again());
            case 13: a = near(0, lots.nextBoolean() ? 12 : 61); return due("night(" + a + ")", x.night(a), m.night(a));
            case 14: a = near(0, 3); return due("goes(" + a + ")", x.goes(a), m.goes(a));
            case 15: a = near(0, 11); return due("follow(" + a + ")", x.follow(a), m.follow(a));
            case 16: a = near(0, 3); return due("net(" + a + ")", x.net(a), m.net(a));
            case 17: return due("mend()", x.mend(), m.mend());
            case 18: a = near(0, 11); return due("mendOf(" + a + ")", x.mendOf(a), m.mendOf(a));
            case 19: return due("prompted()", x.prompted(), m.prompted());
            case 20: a = near(0, 1); return due("home(" + a + ")", x.home(a), m.home(a));
            case 21: a = near(0, 4); return due("without(" + a + ")", x.without(a), m.without(a));
            case 22: return due("leastHarm()", x.leastHarm(), m.leastHarm());
            case 23: a = near(0, 11); b = near(0, lots.nextBoolean() ? 2 : 25);
                return due("joke(" + a + ", " + b + ")", x.joke(a, b), m.joke(a, b));
            case 24: a = near(0, 3); return due("stretched(" + a + ")", x.stretched(a), m.stretched(a));
            case 25: return due("parts()", x.parts(), m.parts());
            case 26: return due("books()", x.books(), m.books());
            case 27: a = near(0, lots.nextBoolean() ? 3 : 720); b = near(0, 7);
                return due("book(" + a + ", " + b + ")", x.book(a, b), m.book(a, b));
            case 28: a = near(0, 11); return due("row(" + a + ")", x.row(a), m.row(a));
            case 29: return tellRow();
            case 30: return due("judge()", x.judge(), m.judge());
            case 31: return due("possible()", x.possible(), m.possible());
            case 32: a = near(1, lots.nextBoolean() ? 3 : 20); b = lots.nextInt();
                return due("lot(" + a + ", " + b + ")", x.lot(a, b), m.lot(a, b));
            case 33: return lots.nextInt(3) != 0 || due("image()", x.image(), m.image());
            case 34: return lots.nextInt(3) != 0 || due("restore()", x.restore(), m.restore());
            default: a = near(0, 17); return due("count(" + a + ")", x.count(a), m.count(a));
        }
    }

    private void go() {
        // Some objects stay new for a while, so that calls without lines come up too.
        if (upTo(9) != 0 && !tellPiece()) return;
        while (told.size() < CALLS - 100) {
            if (!callByLot()) return;
        }
        for (int what = 0; what <= 17; what++) {
            if (!due("count(" + what + ")", x.count(what), m.count(what))) return;
        }
    }

    public static void main(String[] args) {
        for (int run = 0; run < RUNS && wrong < 5; run++) {
            new ModelTests(run).go();
        }
        System.out.println(calls + " calls by lot, " + wrong + " answers are not as due");
        if (wrong != 0) System.exit(1);
    }
}
