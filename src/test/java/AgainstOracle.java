import java.util.ArrayList;
import java.util.Collections;
import java.util.List;
import java.util.Random;

/** Random runs of calls, the same on GameRules and on the Oracle; every answer must be the same. */
public final class AgainstOracle {
    private static int wrong = 0;
    private static final java.util.TreeMap<String, Integer> stats = new java.util.TreeMap<>();

    private final Random random;
    private final long seed;
    private final GameRules x = new GameRules();
    private final Oracle o = new Oracle();
    private final StringBuilder log = new StringBuilder();
    private int made = 0;
    private boolean broken = false;
    private List<Character> letters = new ArrayList<>(List.of('k', 'q', 'r', 'b', 'n', 'p'));
    private boolean hasHand, hasChecks, hasCastle = true;
    private char royal = 'k', castle = 'r';
    private int files = 8, ranks = 8;
    /** What a run is bent towards. */
    private static final int ANY = 0, ENDINGS = 1, CATCHING = 2, CHESSLIKE = 3;
    private int mood = ANY;

    AgainstOracle(long seed) { this.seed = seed; random = new Random(seed); }

    public static void main(String[] args) {
        int from = args.length > 0 ? Integer.parseInt(args[0]) : 0;
        int to = args.length > 1 ? Integer.parseInt(args[1]) : 60;
        for (int seed = from; seed < to && wrong < 5; seed++) new AgainstOracle(seed).run();
        for (java.util.Map.Entry<String, Integer> e : stats.entrySet()) System.out.println(e.getKey() + ": " + e.getValue());
        System.out.println(wrong == 0 ? "all answers agree" : wrong + " runs disagree");
        if (wrong != 0) System.exit(1);
    }

    private int less(int n) { return random.nextInt(Math.max(n, 1)); }
    private boolean chance(int percent) { return random.nextInt(100) < percent; }
    private <T> T any(List<T> list) { return list.get(less(list.size())); }

    private void check(String call, int got, int want) {
        made++;
        String key = call.replaceAll("[(].*", "") + (want < -1 ? " " + (want <= -200 || call.startsWith("rules") ? "fault" : "" + want) : want > 0 ? " >0" : " " + want);
        if (System.getenv("STATS") != null) stats.merge(key, 1, Integer::sum);
        log.append("  ").append(call).append(" -> ").append(want).append('\n');
        if (got != want && !broken) {
            broken = true;
            wrong++;
            System.out.println("seed " + seed + ":\n" + log + "  but GameRules answered " + got);
        }
    }

    private void text(String t) {
        int n = t.length();
        for (int i = 0; i < n || i == 0; i += 20) {
            int[] w = new int[5];
            for (int j = 0; j < 20; j++) w[j / 4] = w[j / 4] << 8 | (i + j < n ? t.charAt(i + j) & 255 : 0);
            check("feed", x.feed(w[0], w[1], w[2], w[3], w[4]), o.feed(w));
        }
        log.append("  TAPE ").append(t).append('\n');
        check("end", x.end(n), o.end(n));
    }

    private String mutate(String t, int percent) {
        if (!chance(percent)) return t;
        StringBuilder b = new StringBuilder(t);
        int at = less(b.length() + 1);
        String alphabet = "abcdefghkpqrnw KQRPB;;,-- 0123456789/\n@xO";
        char c = alphabet.charAt(less(alphabet.length()));
        switch (less(4)) {
            case 0: b.insert(at, c); break;
            case 1: if (at < b.length()) b.setCharAt(at, c); break;
            case 2: if (at < b.length()) b.deleteCharAt(at); break;
            default: b.setLength(at);
        }
        return b.toString();
    }

    private String step() {
        List<String> words = new ArrayList<>();
        int target = less(5);
        if (target == 0) words.add("to");
        if (target == 1) words.add("on");
        if (chance(30)) words.add("fore");
        int jump = less(6);
        if (jump == 0) words.add("over");
        boolean passing = jump == 1 || jump == 2 || mood == CATCHING && jump < 5 && jump > 0;
        if (passing) words.add("pass");
        if (mood != ENDINGS && chance(mood == CATCHING ? 60 : 30)) words.add("catch");
        Collections.shuffle(words, random);
        StringBuilder b = new StringBuilder();
        for (String w : words) b.append(w).append(' ');
        int a = chance(85) ? less(5) - 2 : less(15) - 7;
        int c = chance(85) ? less(5) - 2 : less(15) - 7;
        if (a == 0 && c == 0 && chance(98)) c = 1;
        b.append(a).append(' ').append(c);
        if (chance(mood == CATCHING && passing ? 90 : 45)) b.append(" ride ").append(2 + less(chance(70) ? 2 : 6));
        if (chance(15)) b.append(" from ").append(1 + less(ranks));
        return b.toString();
    }

    private String rulesText() {
        mood = less(4);
        int top = mood == ENDINGS ? 2 : chance(85) ? 3 : 6;
        files = 3 + less(top);
        ranks = 3 + less(top);
        letters = new ArrayList<>();
        List<Character> alphabet = new ArrayList<>();
        for (char c = 'a'; c <= 'z'; c++) alphabet.add(c);
        Collections.shuffle(alphabet, random);
        int men = chance(5) ? 12 + less(2) : chance(3) ? 0 : 1 + less(5);
        List<String> sentences = new ArrayList<>();
        if (mood == CHESSLIKE) {
            men = 6;
            String[] usual = {"k 0 1, 1 1", "q 0 1 ride 7, 1 1 ride 7", "r 0 1 ride 7", "n 1 2",
                "p to fore 0 1, to fore pass 0 1 ride 2 from 2, on fore catch 1 1, on fore catch -1 1",
                "c to 0 1 ride 7, on over 0 1 ride 7"};
            for (String s : usual) {
                letters.add(s.charAt(0));
                sentences.add("man " + s);
            }
        }
        for (int m = 0; m < men && mood != CHESSLIKE; m++) {
            letters.add(alphabet.get(m));
            StringBuilder b = new StringBuilder("man " + alphabet.get(m) + " ");
            int steps = chance(3) ? 7 + less(3) : 1 + less(3);
            for (int i = 0; i < steps; i++) b.append(i > 0 ? ", " : "").append(step());
            sentences.add(b.toString());
        }
        List<String> more = new ArrayList<>();
        royal = '?';
        hasHand = hasChecks = hasCastle = false;
        if (men > 0) {
            List<Character> pool = new ArrayList<>(letters);
            Collections.shuffle(pool, random);
            if (chance(80)) {
                if (mood == CHESSLIKE) { pool.remove((Character) 'k'); pool.add(0, 'k'); }
                royal = pool.remove(0);
                String s = "royal " + royal;
                if (chance(60) && !pool.isEmpty()) { castle = any(pool); s += "; castle " + castle; hasCastle = true; }
                more.add(s);
            }
            if (mood == CHESSLIKE && pool.remove((Character) 'p')) pool.add(0, 'p');
            for (int i = 0; i < 2 && pool.size() > 1; i++) {
                if (!chance(mood == CHESSLIKE ? 95 - 90 * i : 55)) continue;
                StringBuilder b = new StringBuilder("becomes " + pool.remove(0));
                int n = Math.min(pool.size(), 1 + less(3));
                List<Character> others = new ArrayList<>(pool);
                Collections.shuffle(others, random);
                for (int j = 0; j < n; j++) b.append(' ').append(others.get(j));
                if (chance(90)) { pool.removeAll(others.subList(0, n)); }
                more.add(b.toString());
            }
            boolean open = mood != ENDINGS;
            if (open && chance(25)) { more.add("hand"); hasHand = true; }
            if (chance(25)) more.add("must");
            if (chance(20)) more.add("shy");
            if (open && chance(20)) more.add("blast" + (chance(50) ? " " + any(letters) : ""));
            if (open && chance(20)) { more.add("checks " + (1 + less(4))); hasChecks = true; }
            if (chance(20)) more.add("hill " + (char) ('a' + less(files)) + (1 + less(ranks)) + (chance(50) ? " b2" : ""));
            if (chance(30)) more.add("stale " + (chance(50) ? "won" : "lost"));
            if (chance(30)) more.add("bare " + (chance(50) ? "won" : "lost"));
            if (chance(5)) more.add(any(more.isEmpty() ? sentences : more));
        }
        Collections.shuffle(more, random);
        sentences.addAll(more);
        if (chance(5)) Collections.shuffle(sentences, random);
        StringBuilder b = new StringBuilder("board " + files + " " + ranks + ";");
        for (String s : sentences) b.append(chance(50) ? " " : chance(50) ? "" : "\n").append(s).append(chance(80) ? ";" : " ;");
        return b.toString();
    }

    private char letterFor(int rank) {
        char c = any(letters);
        if (c == royal) c = any(letters);
        return chance(50) ? c : Character.toUpperCase(c);
    }

    private String squareName() { return "" + (char) ('a' + less(files)) + (1 + less(ranks)); }

    private String positionText() {
        char[][] board = new char[ranks][files];
        int density = chance(50) ? 15 : mood == CHESSLIKE ? 25 : 40;
        for (char[] row : board) for (int f = 0; f < files; f++) row[f] = !letters.isEmpty() && chance(density) ? letterFor(0) : '1';
        for (char[] row : board) for (int f = 0; f < files; f++) if (Character.toLowerCase(row[f]) == royal) row[f] = '1';
        if (royal != '?') {
            if (chance(92)) board[chance(70) ? 0 : less(ranks)][less(files)] = Character.toUpperCase(royal);
            if (chance(92)) board[chance(70) ? ranks - 1 : less(ranks)][less(files)] = royal;
        }
        if (hasCastle && chance(60)) {
            if (chance(70)) board[0][less(files)] = Character.toUpperCase(castle);
            if (chance(70)) board[ranks - 1][less(files)] = castle;
        }
        StringBuilder b = new StringBuilder();
        for (int r = ranks - 1; r >= 0; r--) {
            int empty = 0;
            for (int f = 0; f < files; f++) {
                if (board[r][f] == '1' && chance(95)) { empty++; continue; }
                if (empty > 0) b.append(empty);
                empty = 0;
                b.append(board[r][f]);
            }
            if (empty > 0) b.append(empty);
            if (r > 0) b.append('/');
        }
        b.append(chance(50) ? " w " : " b ");
        StringBuilder rights = new StringBuilder();
        for (int f = 0; f < files; f++) if (hasCastle && board[0][f] == Character.toUpperCase(castle) && chance(80)) rights.append((char) ('a' + f)).append(1);
        for (int f = 0; f < files; f++) if (hasCastle && board[ranks - 1][f] == castle && chance(80)) rights.append((char) ('a' + f)).append(ranks);
        if (chance(3)) rights.append(squareName());
        b.append(rights.length() == 0 || chance(20) ? "-" : rights).append(' ');
        if (chance(4)) { b.append(squareName()); for (int i = 0; i <= less(3); i++) b.append(squareName()); } else b.append('-');
        b.append(' ');
        if ((hasHand && chance(70) || chance(2)) && !letters.isEmpty()) {
            int n = chance(5) ? 30 + less(4) : 1 + less(4);
            char only = letterFor(0);
            boolean single = chance(10);
            for (int i = 0; i < n; i++) b.append(single ? only : letterFor(0));
        } else b.append('-');
        b.append(' ');
        b.append(hasChecks || chance(2) ? "" + less(4) + less(4) : "00").append(' ');
        b.append(chance(20) ? 97 + less(5) : chance(10) ? 197 + less(6) : less(40));
        return b.toString();
    }

    private int place() { return chance(95) ? less(Math.max(1, o.told(5))) : less(70) - 5; }
    private int square() { return chance(95) ? less(files * ranks) : less(80) - 8; }
    private int side() { return chance(95) ? less(2) : less(5) - 2; }
    private int moveOf(int p) { int n = o.moves(p); return n > 0 && chance(95) ? less(n) : less(40) - 3; }

    private void compareOut() {
        int n = o.told(6);
        check("told(6)", x.told(6), n);
        made += n + 2;
        for (int i = -1; i <= n; i++) {
            int got = x.out(i);
            if (got != o.out(i)) check("out(" + i + ")", got, o.out(i));
        }
    }

    private void newRules() {
        int oldFiles = files, oldRanks = ranks;
        List<Character> oldLetters = letters;
        boolean[] old = {hasHand, hasChecks, hasCastle};
        char[] oldMen = {royal, castle};
        text(mutate(rulesText(), 25));
        int want = o.rules();
        check("rules()", x.rules(), want);
        files = o.told(0);
        ranks = o.told(1);
        if (want < 0) {
            letters = oldLetters;
            hasHand = old[0];
            hasChecks = old[1];
            hasCastle = old[2];
            royal = oldMen[0];
            castle = oldMen[1];
        }
        for (int what = -1; what < 9; what++) check("told(" + what + ")", x.told(what), o.told(what));
    }

    private void newPosition() {
        for (int i = 0; i < 6; i++) {
            text(mutate(positionText(), 6));
            int want = o.position();
            check("position()", x.position(), want);
            if (want >= 0 || want == Oracle.ROOM) {
                if (want >= 0) { check("write(" + want + ")", x.write(want), o.write(want)); compareOut(); }
                return;
            }
        }
    }

    private void sayAll(int p) {
        List<String> texts = o.texts(p);
        for (int i = 0; i < texts.size() && i < 12; i++) {
            int m = less(texts.size());
            check("say(" + p + ", " + m + ") " + texts.get(m), x.say(p, m), o.say(p, m));
            compareOut();
        }
        String t = texts.isEmpty() ? "O-O" : any(texts);
        if (chance(30)) t = t.replaceAll("[+#]$", "");
        text(mutate(t, 20));
        check("hear(" + p + ")", x.hear(p), o.hear(p));
    }

    private void problem() {
        int p = place();
        int kind = chance(97) ? less(4) : less(7) - 1;
        int goal = chance(97) ? less(3) : less(6) - 1;
        int n = chance(97) ? 1 + less(4) : less(7) - 1;
        double b = Math.max(2, o.moves(p));
        int length = kind == 0 ? 2 * n - 1 : kind == 3 ? n : 2 * n;
        if (Math.pow(b, length) > 4000) n = 1;
        length = kind == 0 ? 2 * n - 1 : kind == 3 ? n : 2 * n;
        if (Math.pow(b, length) > 4000) return;
        check("problem(" + p + ", " + kind + ", " + goal + ", " + n + ")", x.problem(p, kind, goal, n), o.problem(p, kind, goal, n));
        checkProblem();
    }

    private void checkProblem() {
        for (int i = -1; i < 6; i++) check("key(" + i + ")", x.key(i), o.key(i));
        for (int i = -1; i < 8; i++) check("refutes(" + i + ")", x.refutes(i), o.refutes(i));
    }

    private void solve() {
        StringBuilder b = new StringBuilder();
        int most = files * ranks <= 9 ? 3 : 2;
        int n = chance(90) ? 2 + less(most - 1) : less(7);
        if (n > most && files * ranks < 60) n = most;
        if (n == 2 && royal != '?' && chance(40) && most == 2 && files * ranks <= 12) n = 3;
        for (int i = 0; i < n && !letters.isEmpty(); i++) b.append(i == 0 && royal != '?' ? royal : i == 1 && royal != '?' ? Character.toUpperCase(royal) : letterFor(0));
        text(mutate(b.toString(), 10));
        check("solve()", x.solve(), o.solve());
        for (int i = 0; i < 3; i++) {
            int side = side();
            int worth = i == 0 ? 0 : (chance(50) ? 1 : -1) * (1000000 - less(6)) + (chance(3) ? 7 : 0);
            check("tally(" + side + ", " + worth + ")", x.tally(side, worth), o.tally(side, worth));
        }
        for (int p = 0; p < 60; p++) if (o.figure(p, 8) >= 0) check("worth(" + p + ")", x.worth(p), o.worth(p));
    }

    private void run() {
        log.append("(the first rules)\n");
        if (chance(75)) newRules();
        for (int i = 0; i < 3; i++) newPosition();
        for (int round = 0; round < 60 && made < 360 && !broken; round++) oneCall();
    }

    private void oneCall() {
        int p = place();
        int what = less(30);
        switch (what) {
            case 0: if (chance(20)) newRules(); break;
            case 1: newPosition(); break;
            case 2: check("drop(" + p + ")", x.drop(p), o.drop(p)); checkProblem(); break;
            case 3: check("write(" + p + ")", x.write(p), o.write(p)); compareOut(); break;
            case 4: { int q = place(); check("same(" + p + ", " + q + ")", x.same(p, q) ? 1 : 0, o.same(p, q)); break; }
            case 5: { int s = square(); check("at(" + p + ", " + s + ")", x.at(p, s), o.at(p, s)); break; }
            case 6: for (int i = -1; i < 10; i++) check("figure(" + p + ", " + i + ")", x.figure(p, i), o.figure(p, i)); break;
            case 7: for (int i = 0; i < 6; i++) { int s = square(), d = side(); check("attacked(" + p + ", " + s + ", " + d + ")", x.attacked(p, s, d), o.attacked(p, s, d)); } break;
            case 8: check("moves(" + p + ")", x.moves(p), o.moves(p)); break;
            case 9: case 10: { int m = moveOf(p); for (int i = -1; i < 7; i++) check("move(" + p + ", " + m + ", " + i + ")", x.move(p, m, i), o.move(p, m, i)); break; }
            case 11: case 12: case 13: case 14: {
                int m = moveOf(p);
                int want = o.go(p, m);
                check("go(" + p + ", " + m + ")", x.go(p, m), want);
                if (want >= 0) { check("write(" + want + ")", x.write(want), o.write(want)); compareOut(); }
                break;
            }
            case 15: { int k = less(5) - 1; if (Math.pow(Math.max(1, o.moves(p)), k) < 6000) check("rows(" + p + ", " + k + ")", x.rows(p, k), o.rows(p, k)); break; }
            case 16: check("ended(" + p + ")", x.ended(p), o.ended(p)); check("result(" + p + ")", x.result(p), o.result(p)); break;
            case 17: case 18: sayAll(p); break;
            case 19: { int g = less(10) - 1; check("start(" + g + ", " + p + ")", x.start(g, p), o.start(g, p)); break; }
            case 20: case 21: playSome(); break;
            case 22: { int g = less(10) - 1; check("back(" + g + ")", x.back(g), o.back(g)); int k = less(6) - 1; check("played(" + g + ", " + k + ")", x.played(g, k), o.played(g, k)); break; }
            case 23: { int g = less(10) - 1; int want = o.now(g); check("now(" + g + ")", x.now(g), want); if (want >= 0) { check("write(" + want + ")", x.write(want), o.write(want)); compareOut(); } break; }
            case 24: { int i = chance(50) ? -1 : moveOf(p); check("book(" + p + ", " + i + ")", x.book(p, i), o.book(p, i)); break; }
            case 25: { int s = square(), d = side(); check("sees(" + p + ", " + d + ", " + s + ")", x.sees(p, d, s), o.sees(p, d, s)); check("view(" + p + ", " + d + ")", x.view(p, d), o.view(p, d)); compareOut(); break; }
            case 26: beforeSome(p); break;
            case 27: case 28: problem(); break;
            default: if (files * ranks <= 16 || chance(10)) solve(); break;
        }
        if (mood == ENDINGS && chance(15)) solve();
        if (mood == CHESSLIKE && chance(15)) problem();
    }

    private void playSome() {
        int g = chance(90) ? less(3) : less(10) - 1;
        if (o.game(g, 0) == Oracle.UNKNOWN) {
            int p = place();
            check("start(" + g + ", " + p + ")", x.start(g, p), o.start(g, p));
        }
        for (int i = 0; i < 8; i++) {
            int m = chance(50) ? less(3) : less(25) - 1;
            check("add(" + g + ", " + m + ")", x.add(g, m), o.add(g, m));
        }
        for (int what = -1; what < 5; what++) check("game(" + g + ", " + what + ")", x.game(g, what), o.game(g, what));
    }

    private void beforeSome(int p) {
        if (files * ranks > 30 && chance(80)) return;
        int want = o.before(p);
        check("before(" + p + ")", x.before(p), want);
        for (int i = 0; i < 4; i++) {
            int k = want > 0 && chance(90) ? less(want) : less(40) - 2;
            int place = o.beforeAt(k);
            check("beforeAt(" + k + ")", x.beforeAt(k), place);
            if (place >= 0) {
                check("write(" + place + ")", x.write(place), o.write(place));
                compareOut();
                check("drop(" + place + ")", x.drop(place), o.drop(place));
            }
        }
    }
}
