import java.util.ArrayList;
import java.util.Arrays;
import java.util.HashMap;
import java.util.HashSet;
import java.util.List;
import java.util.Map;
import java.util.Set;
import java.util.TreeMap;
import java.util.TreeSet;

/** The document's words over again, in the slowest and plainest way, to hold GameRules against. */
final class Oracle {
    static final int NONE = -1, OUTSIDE = -101, UNKNOWN = -102, STATE = -103, ROOM = -104;

    static final class Fault extends RuntimeException {
        private static final long serialVersionUID = 1;
        final int place;
        Fault(int place) { super(null, null, false, false); this.place = place; }
    }

    static final class Step {
        Set<String> words = new HashSet<>();
        int a, b, ride = 1, from = 0;
        final List<List<int[]>> vectors = new ArrayList<>(Arrays.asList(null, null));
        boolean is(String w) { return words.contains(w); }
    }

    static final class Rules {
        int files, ranks, royal = NONE, plain = NONE, castle = NONE, checks = 0;
        List<Character> letters = new ArrayList<>();
        List<List<Step>> steps = new ArrayList<>();
        Map<Integer, List<Integer>> becomes = new HashMap<>();
        Set<Integer> firm = new HashSet<>(), hill = new HashSet<>();
        Set<String> told = new HashSet<>();
        String stale = "", bare = "";
        boolean is(String w) { return told.contains(w); }
        int squares() { return files * ranks; }
        int file(int s) { return s % files; }
        int rank(int s) { return s / files; }
        /** Rank, from 1 on, as a side counts. */
        int sideRank(int s, int side) { return side == 0 ? rank(s) + 1 : ranks - rank(s); }
        int code(int b) {
            if (b >= 'A' && b <= 'Z') { int m = letters.indexOf((char) (b + 32)); return m < 0 ? NONE : 2 * m; }
            if (b >= 'a' && b <= 'z') { int m = letters.indexOf((char) b); return m < 0 ? NONE : 2 * m + 1; }
            return NONE;
        }
        char letter(int code) {
            char c = letters.get(code / 2);
            return code % 2 == 0 ? Character.toUpperCase(c) : c;
        }
        String name(int s) { return "" + (char) ('a' + file(s)) + (char) ('1' + rank(s)); }
    }

    static final class Pos {
        int[] men;
        int side, clock;
        TreeSet<Integer> rights = new TreeSet<>();
        List<Integer> pass = new ArrayList<>();
        int[][] hands = new int[2][26];
        int[] checks = new int[2];
        Pos(int squares) { men = new int[squares]; Arrays.fill(men, NONE); }
        Pos copy() {
            Pos p = new Pos(men.length);
            p.men = men.clone();
            p.side = side;
            p.clock = clock;
            p.rights = new TreeSet<>(rights);
            p.pass = new ArrayList<>(pass);
            p.hands = new int[][] {hands[0].clone(), hands[1].clone()};
            p.checks = checks.clone();
            return p;
        }
        int handCount(int side) { return Arrays.stream(hands[side]).sum(); }
    }

    static final class Mv {
        int from = NONE, to, man, becomes = NONE, taken = NONE, kind;
        int rook = NONE;
        List<Integer> newPass = new ArrayList<>();
    }

    private Rules r;
    private StringBuilder tape = new StringBuilder();
    private String out = "";
    private final Pos[] places = new Pos[60];
    private final List<List<Pos>> games = new ArrayList<>();
    private final List<List<Integer>> gameMoves = new ArrayList<>();
    private List<Pos> found = new ArrayList<>();
    private Map<String, Integer> solved = null;
    private List<String> solvedSets = null;
    private String toldSet = null;
    private Pos problemPos = null;
    private int problemPlace = NONE, problemKind;
    private List<Integer> keys = new ArrayList<>(), refuted = new ArrayList<>();

    Oracle() {
        r = readRules("board 8 8; man k 0 1, 1 1; man q 0 1 ride 7, 1 1 ride 7; man r 0 1 ride 7; man b 1 1 ride 7;"
            + " man n 1 2; man p to fore 0 1, to fore pass 0 1 ride 2 from 2, on fore catch 1 1, on fore catch -1 1;"
            + " royal k; becomes p q r b n; castle r;");
        forget();
    }

    private void forget() {
        Arrays.fill(places, null);
        games.clear();
        gameMoves.clear();
        for (int i = 0; i < 8; i++) { games.add(null); gameMoves.add(null); }
        found = new ArrayList<>();
        solved = null;
        problemPos = null;
        problemPlace = NONE;
    }

    // ---------------------------------------------------------------- rules

    private static final class Token {
        int start; String kind; String text; int value;
    }

    private static List<Token> tokens(String t) {
        List<Token> all = new ArrayList<>();
        int i = 0;
        while (true) {
            while (i < t.length() && (t.charAt(i) == ' ' || t.charAt(i) == '\n')) i++;
            Token k = new Token();
            k.start = i;
            all.add(k);
            if (i == t.length()) { k.kind = "end"; return all; }
            java.util.regex.Matcher m = java.util.regex.Pattern.compile("[a-z]+|-?[0-9]+|[;,]").matcher(t);
            m.region(i, t.length());
            if (!m.lookingAt()) { k.kind = "none"; return all; }
            k.text = m.group();
            i = m.end();
            char c = k.text.charAt(0);
            if (c >= 'a' && c <= 'z') k.kind = "word";
            else if (c == ';' || c == ',') k.kind = k.text;
            else {
                if (k.text.replace("-", "").length() > 2) { k.kind = "none"; return all; }
                k.kind = "number";
                k.value = Integer.parseInt(k.text);
            }
        }
    }

    private static final class Parser {
        List<Token> all; int at = 0; Rules r = new Rules();
        Token now() { return all.get(at); }
        Fault fault() { return new Fault(now().start); }
        boolean word(String w) { return now().kind.equals("word") && now().text.equals(w); }
        void need(boolean ok) { if (!ok) throw fault(); }
        int number(int low, int high) {
            need(now().kind.equals("number") && now().value >= low && now().value <= high);
            return all.get(at++).value;
        }
        void mark(String m) { need(now().kind.equals(m)); at++; }
        int man() {
            need(now().kind.equals("word") && now().text.length() == 1);
            int m = r.letters.indexOf(now().text.charAt(0));
            need(m >= 0);
            return m;
        }
        boolean isBecome(int m) {
            for (List<Integer> l : r.becomes.values()) if (l.contains(m)) return true;
            return false;
        }
        Rules parse() {
            need(word("board"));
            at++;
            r.files = number(3, 8);
            r.ranks = number(3, 8);
            mark(";");
            while (!now().kind.equals("end")) { sentence(); mark(";"); }
            return r;
        }
        void sentence() {
            need(now().kind.equals("word"));
            String w = now().text;
            need(Arrays.asList("man", "royal", "becomes", "castle", "hand", "must", "shy", "blast", "checks", "hill",
                "stale", "bare").contains(w));
            if (w.equals("castle")) need(r.royal != NONE);
            if (!w.equals("man") && !w.equals("becomes")) need(r.told.add(w));
            at++;
            if (w.equals("man")) {
                need(now().kind.equals("word") && now().text.length() == 1);
                need(r.letters.size() < 12 && !r.letters.contains(now().text.charAt(0)));
                r.letters.add(now().text.charAt(0));
                at++;
                List<Step> steps = new ArrayList<>();
                r.steps.add(steps);
                steps.add(step());
                while (steps.size() < 8 && now().kind.equals(",")) { at++; steps.add(step()); }
            } else if (w.equals("royal")) {
                int m = man();
                need(!r.becomes.containsKey(m) && !isBecome(m));
                r.royal = m;
                at++;
            } else if (w.equals("becomes")) {
                int l = man();
                need(l != r.royal && !r.becomes.containsKey(l) && !isBecome(l));
                at++;
                List<Integer> list = new ArrayList<>();
                do {
                    int m = man();
                    need(m != l && m != r.royal && !r.becomes.containsKey(m) && !list.contains(m));
                    list.add(m);
                    at++;
                } while (list.size() < 6 && now().kind.equals("word"));
                r.becomes.put(l, list);
                if (r.plain == NONE) r.plain = l;
            } else if (w.equals("castle")) {
                int m = man();
                need(m != r.royal);
                r.castle = m;
                at++;
            } else if (w.equals("blast")) {
                while (!now().kind.equals(";")) { int m = man(); need(r.firm.add(m)); at++; }
            } else if (w.equals("checks")) {
                r.checks = number(1, 9);
            } else if (w.equals("hill")) {
                do {
                    need(now().kind.equals("word") && now().text.length() == 1);
                    int f = now().text.charAt(0) - 'a';
                    need(f < r.files);
                    at++;
                    need(now().kind.equals("number") && now().value >= 1 && now().value <= r.ranks);
                    need(r.hill.add((now().value - 1) * r.files + f));
                    at++;
                } while (!now().kind.equals(";"));
            } else if (w.equals("stale") || w.equals("bare")) {
                need(word("won") || word("lost"));
                if (w.equals("stale")) r.stale = now().text; else r.bare = now().text;
                at++;
            }
        }
        Step step() {
            Step s = new Step();
            while (now().kind.equals("word")) {
                String w = now().text;
                need(Arrays.asList("to", "on", "fore", "over", "pass", "catch").contains(w));
                need(s.words.add(w));
                need(!(s.is("to") && s.is("on")) && !(s.is("over") && s.is("pass")));
                at++;
            }
            s.a = number(-7, 7);
            need(now().kind.equals("number") && !(s.a == 0 && now().value == 0));
            s.b = number(-7, 7);
            if (word("ride")) { at++; s.ride = number(2, 7); }
            if (word("from")) { at++; s.from = number(1, r.ranks); }
            return s;
        }
    }

    private static Rules readRules(String t) {
        Parser p = new Parser();
        p.all = tokens(t);
        return p.parse();
    }

    // ------------------------------------------------------------ positions

    private final class Reader {
        String t; int at = 0;
        int now() { return at < t.length() ? t.charAt(at) : -1; }
        void need(boolean ok) { if (!ok) throw new Fault(at); }
        void take(char c) { need(now() == c); at++; }
        int square() {
            need(now() >= 'a' && now() < 'a' + r.files);
            int f = now() - 'a';
            at++;
            need(now() >= '1' && now() < '1' + r.ranks);
            int s = (now() - '1') * r.files + f;
            at++;
            return s;
        }
        Pos read() {
            Pos p = new Pos(r.squares());
            for (int rank = r.ranks; rank >= 1; rank--) {
                if (rank < r.ranks) take('/');
                int f = 1;
                while (f <= r.files) {
                    if (now() >= '1' && now() <= '8') { need(f + now() - '0' <= r.files + 1); f += now() - '0'; }
                    else { need(r.code(now()) != NONE); p.men[(rank - 1) * r.files + f - 1] = r.code(now()); f++; }
                    at++;
                }
            }
            take(' ');
            need(now() == 'w' || now() == 'b');
            p.side = now() == 'w' ? 0 : 1;
            at++;
            take(' ');
            if (now() == '-') at++;
            else do {
                int start = at;
                int s = square();
                if (!p.rights.isEmpty() && p.rights.last() >= s) throw new Fault(start);
                p.rights.add(s);
            } while (now() != ' ');
            take(' ');
            if (now() == '-') at++;
            else do p.pass.add(square()); while (p.pass.size() < 2 || now() != ' ');
            take(' ');
            if (now() == '-') at++;
            else {
                int n = 0;
                do {
                    int c = r.code(now());
                    need(c != NONE && n < 32 && p.hands[c % 2][c / 2] < 16);
                    p.hands[c % 2][c / 2]++;
                    n++;
                    at++;
                } while (now() != ' ');
            }
            take(' ');
            for (int i = 0; i < 2; i++) { need(now() >= '0' && now() <= '9'); p.checks[i] = now() - '0'; at++; }
            take(' ');
            int first = at;
            need(now() >= '0' && now() <= '9');
            while (at < first + 3 && now() >= '0' && now() <= '9') { p.clock = 10 * p.clock + now() - '0'; at++; }
            if (p.clock > 200) throw new Fault(first);
            need(at == t.length());
            return p;
        }
    }

    private int royal(Pos p, int side) {
        if (r.royal == NONE) return NONE;
        for (int s = 0; s < p.men.length; s++) if (p.men[s] == 2 * r.royal + side) return s;
        return NONE;
    }

    private int wrong(Pos p) {
        for (int side = 0; side < 2; side++) {
            if (r.royal == NONE) continue;
            int n = 0;
            for (int c : p.men) if (c == 2 * r.royal + side) n++;
            if (n > 1 || (n != 1 && r.is("blast")) || p.hands[side][r.royal] > 0) return -2;
        }
        for (int s = 0; s < p.men.length; s++) {
            int c = p.men[s];
            if (c != NONE && r.becomes.containsKey(c / 2) && r.sideRank(s, c % 2) == r.ranks) return -3;
        }
        for (int s : p.rights) {
            int c = p.men[s];
            if (c == NONE || r.castle == NONE || c / 2 != r.castle || r.sideRank(s, c % 2) != 1) return -4;
            int k = royal(p, c % 2);
            if (k == NONE || r.sideRank(k, c % 2) != 1) return -4;
        }
        if (!p.pass.isEmpty() && !passRight(p)) return -5;
        int k = royal(p, 1 - p.side);
        if (k != NONE && hit(p, k, p.side)) return -6;
        if (r.checks == 0 && p.checks[0] + p.checks[1] > 0) return -7;
        if (!r.is("hand") && p.handCount(0) + p.handCount(1) > 0) return -8;
        return 0;
    }

    private boolean passRight(Pos p) {
        int t = p.pass.get(0);
        int c = p.men[t];
        if (c == NONE || c % 2 == p.side) return false;
        for (Step st : r.steps.get(c / 2)) {
            if (!st.is("pass")) continue;
            for (int s = 0; s < p.men.length; s++) {
                if (p.men[s] != NONE || (st.from != 0 && r.sideRank(s, c % 2) != st.from)) continue;
                for (int[] v : vectors(st, c % 2)) {
                    for (int k = 2; k <= st.ride; k++) {
                        if (walk(s, v, k) != t) continue;
                        List<Integer> over = new ArrayList<>();
                        boolean empty = true;
                        for (int i = 1; i < k; i++) {
                            over.add(walk(s, v, i));
                            empty &= p.men[walk(s, v, i)] == NONE;
                        }
                        if (empty && over.equals(p.pass.subList(1, p.pass.size()))) return true;
                    }
                }
            }
        }
        return false;
    }

    private String ranks(Pos p, Set<Integer> seen) {
        StringBuilder b = new StringBuilder();
        for (int rank = r.ranks; rank >= 1; rank--) {
            StringBuilder row = new StringBuilder();
            for (int f = 1; f <= r.files; f++) {
                int s = (rank - 1) * r.files + f - 1;
                row.append(seen != null && !seen.contains(s) ? '?' : p.men[s] == NONE ? '1' : r.letter(p.men[s]));
            }
            String text = row.toString();
            for (int n = 8; n > 1; n--) text = text.replace("1".repeat(n), "" + n);
            b.append(rank < r.ranks ? "/" : "").append(text);
        }
        return b.toString();
    }

    private String written(Pos p) {
        StringBuilder b = new StringBuilder(ranks(p, null));
        b.append(p.side == 0 ? " w " : " b ");
        for (int s : p.rights) b.append(r.name(s));
        b.append(p.rights.isEmpty() ? "- " : " ");
        for (int s : p.pass) b.append(r.name(s));
        b.append(p.pass.isEmpty() ? "- " : " ");
        for (int side = 0; side < 2; side++)
            for (int m = 0; m < r.letters.size(); m++)
                for (int i = 0; i < p.hands[side][m]; i++) b.append(r.letter(2 * m + side));
        b.append(p.handCount(0) + p.handCount(1) == 0 ? "- " : " ");
        return b.append(p.checks[0]).append(p.checks[1]).append(' ').append(p.clock).toString();
    }

    private boolean alike(Pos p, Pos q) {
        if (!Arrays.equals(p.men, q.men) || p.side != q.side || !p.rights.equals(q.rights)) return false;
        if (!Arrays.deepEquals(p.hands, q.hands) || !Arrays.equals(p.checks, q.checks)) return false;
        boolean counts = false;
        for (Mv m : legal(p)) counts |= m.kind == 1;
        for (Mv m : legal(q)) counts |= m.kind == 1;
        return !counts || p.pass.equals(q.pass);
    }

    // ---------------------------------------------------------------- moves

    private List<int[]> vectors(Step st, int side) {
        if (st.vectors.get(side) == null) st.vectors.set(side, newVectors(st, side));
        return st.vectors.get(side);
    }

    private List<int[]> newVectors(Step st, int side) {
        List<int[]> all = new ArrayList<>();
        if (st.is("fore")) { all.add(new int[] {st.a, side == 0 ? st.b : -st.b}); return all; }
        for (int i = -1; i <= 1; i += 2)
            for (int j = -1; j <= 1; j += 2) {
                all.add(new int[] {i * st.a, j * st.b});
                all.add(new int[] {i * st.b, j * st.a});
            }
        return all;
    }

    private int walk(int s, int[] v, int k) {
        int f = r.file(s) + k * v[0], rank = r.rank(s) + k * v[1];
        return f < 0 || f >= r.files || rank < 0 || rank >= r.ranks ? NONE : rank * r.files + f;
    }

    /** The squares between, if the step may lead along these squares; t's own state is not asked. */
    private List<Integer> path(Pos p, Step st, int s, int t, int side) {
        if (st.from != 0 && r.sideRank(s, side) != st.from) return null;
        int across = r.file(t) - r.file(s), along = r.rank(t) - r.rank(s);
        for (int[] v : vectors(st, side))
            for (int k = 1; k <= st.ride; k++) {
                if (k * v[0] != across || k * v[1] != along) continue;
                List<Integer> between = new ArrayList<>();
                int met = 0;
                for (int i = 1; i < k; i++) {
                    int q = walk(s, v, i);
                    between.add(q);
                    if (p.men[q] != NONE) met++;
                }
                if (met == (st.is("over") ? 1 : 0)) return between;
            }
        return null;
    }

    private boolean hit(Pos p, int square, int side) {
        for (int s = 0; s < p.men.length; s++) {
            if (p.men[s] == NONE || p.men[s] % 2 != side || s == square) continue;
            for (Step st : r.steps.get(p.men[s] / 2))
                if (!st.is("to") && path(p, st, s, square, side) != null) return true;
        }
        return false;
    }

    /** 0: does not lead there; 1: leads; 2: leads by catch. */
    private int leads(Pos p, Step st, int s, int t, int side) {
        int there = p.men[t];
        if (path(p, st, s, t, side) == null) return 0;
        if (there != NONE && there % 2 == side) return 0;
        if (st.is("catch") && side == p.side && p.pass.lastIndexOf(t) > 0) return 2;
        if (st.is("to") && there != NONE) return 0;
        if (st.is("on") && there == NONE) return 0;
        return 1;
    }

    private List<Mv> pseudo(Pos p) {
        List<Mv> all = new ArrayList<>();
        for (int s = 0; s < p.men.length; s++) {
            int c = p.men[s];
            if (c == NONE || c % 2 != p.side) continue;
            for (int t = 0; t < p.men.length; t++) {
                for (Step st : r.steps.get(c / 2)) {
                    int how = s == t ? 0 : leads(p, st, s, t, p.side);
                    if (how == 0) continue;
                    Mv m = new Mv();
                    m.from = s;
                    m.to = t;
                    m.man = c / 2;
                    m.kind = how - 1;
                    int victim = how == 2 ? p.men[p.pass.get(0)] : p.men[t];
                    m.taken = victim == NONE ? NONE : victim / 2;
                    List<Integer> between = path(p, st, s, t, p.side);
                    if (st.is("pass") && !between.isEmpty()) { m.newPass.add(t); m.newPass.addAll(between); }
                    boolean bang = r.is("blast") && m.taken != NONE;
                    if (r.becomes.containsKey(m.man) && r.sideRank(t, p.side) == r.ranks && !bang) {
                        for (int b : r.becomes.get(m.man)) {
                            Mv n = new Mv();
                            n.from = s; n.to = t; n.man = m.man; n.kind = m.kind; n.taken = m.taken;
                            n.newPass = m.newPass;
                            n.becomes = b;
                            all.add(n);
                        }
                    } else all.add(m);
                    break;
                }
                for (int rook : p.rights) if (mayCastle(p, s, t, rook)) {
                    Mv m = new Mv();
                    m.from = s; m.to = t; m.man = r.royal; m.kind = 2; m.rook = rook;
                    all.add(m);
                }
            }
        }
        if (r.is("hand"))
            for (int t = 0; t < p.men.length; t++)
                for (int m = 0; m < r.letters.size(); m++) {
                    if (p.men[t] != NONE || p.hands[p.side][m] == 0) continue;
                    if (r.becomes.containsKey(m) && (r.rank(t) == 0 || r.rank(t) == r.ranks - 1)) continue;
                    Mv d = new Mv();
                    d.to = t; d.man = m; d.kind = 3;
                    all.add(d);
                }
        return all;
    }

    private boolean mayCastle(Pos p, int s, int t, int rook) {
        if (p.men[s] != 2 * r.royal + p.side || r.royal == NONE || p.men[rook] % 2 != p.side) return false;
        if (r.rank(s) != r.rank(rook) || Math.abs(r.file(s) - r.file(rook)) < 3) return false;
        int d = rook > s ? 1 : -1;
        if (t != s + 2 * d) return false;
        for (int q = s + d; q != rook; q += d) if (p.men[q] != NONE) return false;
        for (int i = 0; i < 3; i++) if (hit(p, s + i * d, 1 - p.side)) return false;
        return true;
    }

    private Pos after(Pos p, Mv m) {
        Pos q = p.copy();
        int own = p.side;
        List<Integer> touched = new ArrayList<>();
        if (m.kind == 3) {
            q.men[m.to] = 2 * m.man + own;
            q.hands[own][m.man]--;
        } else {
            if (m.man == r.royal)
                for (int s : p.rights) if (p.men[s] % 2 == own) q.rights.remove(s);
            q.men[m.from] = NONE;
            touched.add(m.from);
            touched.add(m.to);
            if (m.kind == 1) { q.men[p.pass.get(0)] = NONE; touched.add(p.pass.get(0)); }
            q.men[m.to] = 2 * (m.becomes == NONE ? m.man : m.becomes) + own;
            if (m.kind == 2) {
                q.men[m.rook] = NONE;
                q.men[(m.from + m.to) / 2] = 2 * r.castle + own;
                touched.add(m.rook);
            }
            if (m.taken != NONE) {
                if (r.is("hand") && m.taken != r.royal && q.hands[own][m.taken] < 16) q.hands[own][m.taken]++;
                if (r.is("blast")) {
                    q.men[m.to] = NONE;
                    for (int s = 0; s < q.men.length; s++) {
                        int df = Math.abs(r.file(s) - r.file(m.to)), dr = Math.abs(r.rank(s) - r.rank(m.to));
                        if (Math.max(df, dr) == 1 && q.men[s] != NONE && !r.firm.contains(q.men[s] / 2)) {
                            q.men[s] = NONE;
                            touched.add(s);
                        }
                    }
                }
            }
        }
        for (int s : touched) q.rights.remove(s);
        q.pass = new ArrayList<>();
        if (!m.newPass.isEmpty() && q.men[m.to] != NONE) q.pass.addAll(m.newPass);
        boolean zero = m.taken != NONE || m.kind == 3 || (m.kind != 2 && r.becomes.containsKey(m.man));
        q.clock = zero ? 0 : Math.min(200, p.clock + 1);
        q.side = 1 - own;
        int k = royal(q, q.side);
        if (r.checks > 0 && k != NONE && hit(q, k, own)) q.checks[own] = Math.min(9, q.checks[own] + 1);
        return q;
    }

    private List<Mv> legal(Pos p) { return legal(p, false); }

    private List<Mv> legal(Pos p, boolean oneWillDo) {
        List<Mv> good = new ArrayList<>();
        if (early(p) != 0) return good;
        boolean takes = false;
        for (Mv m : pseudo(p)) {
            Pos q = after(p, m);
            int own = p.side, other = 1 - own;
            int mine = royal(q, own), its = royal(q, other);
            if (royal(p, own) != NONE) {
                if (mine == NONE) continue;
                boolean gone = royal(p, other) != NONE && its == NONE;
                if (!gone && hit(q, mine, other)) continue;
            }
            if (r.is("shy") && its != NONE && hit(q, its, own)) continue;
            good.add(m);
            if (oneWillDo) return good;
            takes |= m.taken != NONE;
        }
        if (r.is("must") && takes) good.removeIf(m -> m.taken == NONE);
        return good;
    }

    private boolean bare(Pos p, int side) {
        if (p.handCount(side) > 0) return false;
        for (int c : p.men) if (c != NONE && c % 2 == side) return false;
        return true;
    }

    private int early(Pos p) {
        if (r.is("blast") && r.royal != NONE && (royal(p, 0) == NONE || royal(p, 1) == NONE)) return 1;
        for (int side = 0; side < 2; side++)
            if (royal(p, side) != NONE && r.hill.contains(royal(p, side))) return 2;
        if (r.checks > 0 && Math.max(p.checks[0], p.checks[1]) >= r.checks) return 3;
        return bare(p, 0) || bare(p, 1) ? 4 : 0;
    }

    private int end(Pos p) {
        if (early(p) != 0) return early(p);
        if (!legal(p, true).isEmpty()) return 0;
        return royal(p, p.side) != NONE && hit(p, royal(p, p.side), 1 - p.side) ? 5 : 6;
    }

    private int winner(Pos p) {
        int me = p.side, you = 1 - me;
        switch (end(p)) {
            case 0: return NONE;
            case 1: return royal(p, 0) == NONE ? 1 : 0;
            case 2: return royal(p, you) != NONE && r.hill.contains(royal(p, you)) ? you : me;
            case 3: return p.checks[you] >= r.checks ? you : me;
            case 4: {
                int empty = bare(p, me) ? me : you;
                return r.bare.equals("won") ? empty : 1 - empty;
            }
            case 5: return you;
            default: return r.stale.equals("won") ? me : r.stale.equals("lost") ? you : 2;
        }
    }

    // ---------------------------------------------------------- short texts

    private String shortText(Pos p, List<Mv> all, Mv m) {
        StringBuilder b = new StringBuilder();
        if (m.kind == 2) b.append(r.file(m.rook) > r.file(m.from) ? "O-O" : "O-O-O");
        else if (m.kind == 3) b.append(r.letter(2 * m.man)).append('@').append(r.name(m.to));
        else {
            if (m.man != r.plain) b.append(r.letter(2 * m.man));
            List<Integer> these = new ArrayList<>();
            for (Mv o : all) if (o.kind < 2 && o.man == m.man && o.to == m.to && o.from != m.from) these.add(o.from);
            boolean file = these.stream().anyMatch(s -> r.file(s) == r.file(m.from));
            boolean rank = these.stream().anyMatch(s -> r.rank(s) == r.rank(m.from));
            String from = r.name(m.from);
            if (m.man == r.plain && m.taken != NONE) b.append(file ? from : from.substring(0, 1));
            else if (!these.isEmpty()) b.append(!file ? from.substring(0, 1) : !rank ? from.substring(1) : from);
            if (m.taken != NONE) b.append('x');
            b.append(r.name(m.to));
            if (m.becomes != NONE) b.append('=').append(r.letter(2 * m.becomes));
        }
        Pos q = after(p, m);
        if (winner(q) == p.side) b.append('#');
        else if (royal(q, q.side) != NONE && hit(q, royal(q, q.side), p.side)) b.append('+');
        return b.toString();
    }

    private Set<Integer> seen(Pos p, int side) {
        Set<Integer> all = new HashSet<>();
        for (int s = 0; s < p.men.length; s++) {
            if (p.men[s] == NONE || p.men[s] % 2 != side) continue;
            all.add(s);
            for (int t = 0; t < p.men.length; t++)
                for (Step st : r.steps.get(p.men[s] / 2)) if (s != t && leads(p, st, s, t, side) != 0) all.add(t);
        }
        return all;
    }

    // ------------------------------------------------------------ the calls

    private Pos get(int p) { return p < 0 || p >= 60 ? null : places[p]; }

    private int put(Pos p) {
        for (int i = 0; i < 60; i++) if (places[i] == null) { places[i] = p; return i; }
        return ROOM;
    }

    int feed(int... numbers) {
        if (tape.length() + 20 > 1200) return ROOM;
        for (int n : numbers) for (int i = 24; i >= 0; i -= 8) tape.append((char) (n >>> i & 255));
        return tape.length();
    }

    int end(int n) {
        if (n < 0 || n > tape.length()) return OUTSIDE;
        tape.setLength(n);
        return n;
    }

    private String use() {
        String t = tape.toString();
        tape.setLength(0);
        return t;
    }

    int rules() {
        try {
            r = readRules(use());
            forget();
            return r.letters.size();
        } catch (Fault f) {
            return -1 - f.place;
        }
    }

    int told(int what) {
        switch (what) {
            case 0: return r.files;
            case 1: return r.ranks;
            case 2: return r.letters.size();
            case 3: return r.royal;
            case 4: return r.plain;
            case 5: return (int) Arrays.stream(places).filter(x -> x != null).count();
            case 6: return out.length();
            case 7: return tape.length();
            default: return OUTSIDE;
        }
    }

    int out(int i) { return i < 0 || i >= out.length() ? NONE : out.charAt(i); }

    int position() {
        String t = use();
        if (Arrays.stream(places).allMatch(x -> x != null)) return ROOM;
        try {
            Reader reader = new Reader();
            reader.t = t;
            Pos p = reader.read();
            return wrong(p) != 0 ? wrong(p) : put(p);
        } catch (Fault f) {
            return -200 - f.place;
        }
    }

    int drop(int p) {
        if (get(p) == null) return UNKNOWN;
        places[p] = null;
        if (problemPlace == p) { problemPlace = NONE; problemPos = null; }
        return 1;
    }

    int write(int p) {
        if (get(p) == null) return UNKNOWN;
        out = written(get(p));
        return out.length();
    }

    int same(int p, int q) { return get(p) != null && get(q) != null && alike(get(p), get(q)) ? 1 : 0; }

    private boolean badSquare(int s) { return s < 0 || s >= r.squares(); }
    private boolean badSide(int s) { return s < 0 || s > 1; }
    private boolean bad(int x, int high) { return x < 0 || x > high; }

    int at(int p, int s) { return badSquare(s) ? OUTSIDE : get(p) == null ? UNKNOWN : get(p).men[s]; }

    int figure(int p, int what) {
        if (bad(what, 8)) return OUTSIDE;
        Pos q = get(p);
        if (q == null) return UNKNOWN;
        int[] all = {q.side, q.clock, q.checks[0], q.checks[1], q.rights.size(), q.pass.isEmpty() ? NONE : q.pass.get(0),
            q.handCount(0), q.handCount(1), (int) Arrays.stream(q.men).filter(c -> c != NONE).count()};
        return all[what];
    }

    int attacked(int p, int s, int side) {
        if (badSquare(s) || badSide(side)) return OUTSIDE;
        return get(p) == null ? UNKNOWN : hit(get(p), s, side) ? 1 : 0;
    }

    int moves(int p) { return get(p) == null ? UNKNOWN : legal(get(p)).size(); }

    private Mv mv(int p, int i) {
        if (get(p) == null) return null;
        List<Mv> all = legal(get(p));
        return i < 0 || i >= all.size() ? null : all.get(i);
    }

    int move(int p, int i, int what) {
        if (bad(what, 5)) return OUTSIDE;
        Mv m = mv(p, i);
        if (m == null) return UNKNOWN;
        return new int[] {m.from, m.to, m.man, m.becomes, m.taken, m.kind}[what];
    }

    int go(int p, int i) {
        Mv m = mv(p, i);
        return m == null ? UNKNOWN : put(after(get(p), m));
    }

    private void countRows(Pos p, int depth, int k, int[] counts) {
        List<Mv> all = legal(p);
        counts[depth] += all.size();
        if (counts[depth] > 100000) throw new Fault(0);
        if (depth + 1 < k) for (Mv m : all) countRows(after(p, m), depth + 1, k, counts);
    }

    int rows(int p, int k) {
        if (bad(k, 6)) return OUTSIDE;
        if (get(p) == null) return UNKNOWN;
        if (k == 0) return 1;
        int[] counts = new int[10];
        try { countRows(get(p), 0, k, counts); } catch (Fault f) { return ROOM; }
        return counts[k - 1];
    }

    int ended(int p) { return get(p) == null ? UNKNOWN : end(get(p)); }
    int result(int p) { return get(p) == null ? UNKNOWN : winner(get(p)); }

    int say(int p, int i) {
        Mv m = mv(p, i);
        if (m == null) return UNKNOWN;
        List<Mv> all = legal(get(p));
        out = shortText(get(p), all, all.get(i));
        return out.length();
    }

    /** Texts of all legal moves. */
    List<String> texts(int p) {
        List<String> texts = new ArrayList<>();
        if (get(p) == null) return texts;
        List<Mv> all = legal(get(p));
        for (Mv m : all) texts.add(shortText(get(p), all, m));
        return texts;
    }

    int hear(int p) {
        String t = use();
        if (get(p) == null) return UNKNOWN;
        List<String> texts = texts(p);
        for (int i = 0; i < texts.size(); i++) {
            String x = texts.get(i);
            if (t.equals(x) || t.equals(x.replaceAll("[+#]$", ""))) return i;
        }
        return NONE;
    }

    int start(int g, int p) {
        if (bad(g, 7)) return OUTSIDE;
        if (get(p) == null) return UNKNOWN;
        games.set(g, new ArrayList<>(List.of(get(p).copy())));
        gameMoves.set(g, new ArrayList<>());
        return 0;
    }

    private Pos last(int g) { return games.get(g).get(games.get(g).size() - 1); }

    int add(int g, int i) {
        if (bad(g, 7)) return OUTSIDE;
        if (games.get(g) == null) return UNKNOWN;
        List<Mv> all = legal(last(g));
        if (i < 0 || i >= all.size()) return UNKNOWN;
        if (gameMoves.get(g).size() == 300) return ROOM;
        games.get(g).add(after(last(g), all.get(i)));
        gameMoves.get(g).add(i);
        return gameMoves.get(g).size();
    }

    int back(int g) {
        if (bad(g, 7)) return OUTSIDE;
        if (games.get(g) == null) return UNKNOWN;
        int n = gameMoves.get(g).size();
        if (n == 0) return STATE;
        gameMoves.get(g).remove(n - 1);
        games.get(g).remove(n);
        return n - 1;
    }

    int game(int g, int what) {
        if (bad(g, 7) || bad(what, 3)) return OUTSIDE;
        if (games.get(g) == null) return UNKNOWN;
        int alike = (int) games.get(g).stream().filter(q -> alike(q, last(g))).count();
        switch (what) {
            case 0: return gameMoves.get(g).size();
            case 1: return alike;
            case 2: return alike >= 3 || last(g).clock >= 100 ? 1 : 0;
            default: return end(last(g));
        }
    }

    int played(int g, int k) {
        if (bad(g, 7)) return OUTSIDE;
        if (games.get(g) == null || k < 0 || k >= gameMoves.get(g).size()) return UNKNOWN;
        return gameMoves.get(g).get(k);
    }

    int now(int g) {
        if (bad(g, 7)) return OUTSIDE;
        return games.get(g) == null ? UNKNOWN : put(last(g).copy());
    }

    int book(int p, int i) {
        if (get(p) == null || (i != NONE && mv(p, i) == null)) return UNKNOWN;
        int n = 0;
        for (int g = 0; g < 8; g++) {
            if (games.get(g) == null) continue;
            for (int k = 0; k < games.get(g).size(); k++) {
                if (!alike(games.get(g).get(k), get(p))) continue;
                if (i == NONE || (k < gameMoves.get(g).size() && gameMoves.get(g).get(k) == i)) n++;
            }
        }
        return n;
    }

    int sees(int p, int side, int s) {
        if (badSquare(s) || badSide(side)) return OUTSIDE;
        return get(p) == null ? UNKNOWN : seen(get(p), side).contains(s) ? 1 : 0;
    }

    int view(int p, int side) {
        if (badSide(side)) return OUTSIDE;
        if (get(p) == null) return UNKNOWN;
        out = ranks(get(p), seen(get(p), side));
        return out.length();
    }

    private boolean hasAny(String... words) {
        for (String w : words) if (r.is(w)) return true;
        return false;
    }

    /** All changes of two squares are tried. */
    int before(int p) {
        Pos target = get(p);
        if (target == null) return UNKNOWN;
        if (hasAny("hand", "blast", "checks")) return STATE;
        TreeMap<String, Pos> all = new TreeMap<>();
        int mover = 1 - target.side;
        for (int t = 0; t < target.men.length; t++) {
            if (target.men[t] == NONE || target.men[t] % 2 != mover) continue;
            for (int s = 0; s < target.men.length; s++) {
                if (target.men[s] != NONE) continue;
                for (int man = 0; man < r.letters.size(); man++) {
                    for (int taken = NONE; taken < r.letters.size(); taken++) {
                        Pos q = new Pos(r.squares());
                        q.men = target.men.clone();
                        q.side = mover;
                        q.men[s] = 2 * man + mover;
                        q.men[t] = taken == NONE ? NONE : 2 * taken + 1 - mover;
                        boolean mayLead = false;
                        for (Step st : r.steps.get(man)) mayLead |= leads(q, st, s, t, mover) != 0;
                        if (!mayLead || wrong(q) != 0 || early(q) != 0) continue;
                        for (Mv m : legal(q))
                            if (Arrays.equals(after(q, m).men, target.men)) all.put(written(q), q);
                    }
                }
            }
        }
        found = new ArrayList<>(all.size() > 3000 ? List.of() : all.values());
        return all.size() > 3000 ? ROOM : all.size();
    }

    int beforeAt(int k) { return k < 0 || k >= found.size() ? UNKNOWN : put(found.get(k).copy()); }

    // -------------------------------------------------------------- endings

    private String sorted(String s) {
        char[] c = s.toCharArray();
        Arrays.sort(c);
        return new String(c);
    }

    int solve() {
        String t = use();
        boolean catches = r.steps.stream().anyMatch(l -> l.stream().anyMatch(s -> s.is("catch")));
        if (hasAny("hand", "blast", "checks") || catches) return STATE;
        for (int i = 0; i < t.length(); i++) {
            int c = r.code(t.charAt(i));
            boolean second = c != NONE && c / 2 == r.royal && t.substring(0, i).indexOf(t.charAt(i)) >= 0;
            if (c == NONE || second || i == 5) return -200 - i;
        }
        if (t.length() < 2) return -200 - t.length();
        List<String> sets = new ArrayList<>(List.of(sorted(t)));
        long size = 0;
        for (int i = 0; i < sets.size(); i++) {
            String set = sets.get(i);
            size += 2 * (long) Math.pow(r.squares(), set.length());
            if (size > 600000) { solved = null; return ROOM; }
            for (int j = 0; j < set.length(); j++) {
                int c = r.code(set.charAt(j));
                if (c / 2 == r.royal) continue;
                String rest = set.substring(0, j) + set.substring(j + 1);
                List<String> next = new ArrayList<>(List.of(rest));
                for (int b : r.becomes.getOrDefault(c / 2, List.of())) next.add(sorted(rest + r.letter(2 * b + c % 2)));
                for (String n : next) if (!sets.contains(n)) sets.add(n);
            }
        }
        toldSet = sorted(t);
        solvedSets = sets;
        solveAll();
        return sets.size();
    }

    private void placeAll(String set, int i, Pos p, Set<String> done, List<Pos> all) {
        if (i == set.length()) {
            for (int side = 0; side < 2; side++) {
                Pos q = p.copy();
                q.side = side;
                if (done.add(written(q)) && wrong(q) == 0) all.add(q);
            }
            return;
        }
        for (int s = 0; s < p.men.length; s++) {
            if (p.men[s] != NONE) continue;
            p.men[s] = r.code(set.charAt(i));
            placeAll(set, i + 1, p, done, all);
            p.men[s] = NONE;
        }
    }

    private String menOf(Pos p) {
        StringBuilder b = new StringBuilder();
        for (int c : p.men) if (c != NONE) b.append(r.letter(c));
        return sorted(b.toString());
    }

    private String node(Pos p) { return ranks(p, null) + p.side; }

    private void solveAll() {
        solved = new HashMap<>();
        List<Pos> all = new ArrayList<>();
        for (String set : solvedSets) placeAll(set, 0, new Pos(r.squares()), new HashSet<>(), all);
        Map<String, List<String>> next = new HashMap<>();
        for (Pos p : all) {
            if (end(p) != 0) {
                int w = winner(p);
                solved.put(node(p), w == 2 ? 0 : w == p.side ? 1000000 : -1000000);
            } else {
                List<String> list = new ArrayList<>();
                for (Mv m : legal(p)) list.add(node(after(p, m)));
                next.put(node(p), list);
            }
        }
        for (int n = 1; ; n++) {
            Map<String, Integer> fresh = new HashMap<>();
            for (Map.Entry<String, List<String>> e : next.entrySet()) {
                boolean win = false, lose = true;
                for (String x : e.getValue()) {
                    Integer w = solved.get(x);
                    win |= w != null && w < 0;
                    lose &= w != null && w > 0;
                }
                if (win) fresh.put(e.getKey(), 1000000 - n);
                else if (lose) fresh.put(e.getKey(), n - 1000000);
            }
            if (fresh.isEmpty()) break;
            solved.putAll(fresh);
            next.keySet().removeAll(fresh.keySet());
        }
        for (String x : next.keySet()) solved.put(x, 0);
    }

    int worth(int p) {
        if (get(p) == null) return UNKNOWN;
        if (solved == null || !solvedSets.contains(menOf(get(p)))) return STATE;
        return 2000000 + solved.get(node(get(p)));
    }

    int tally(int side, int worth) {
        if (badSide(side) || worth < -1000000 || worth > 1000000) return OUTSIDE;
        if (solved == null) return STATE;
        int n = 0;
        for (Map.Entry<String, Integer> e : solved.entrySet()) {
            String k = e.getKey();
            String men = sorted(k.substring(0, k.length() - 1).replaceAll("[^A-Za-z]", ""));
            if (k.endsWith("" + side) && men.equals(toldSet) && e.getValue() == worth) n++;
        }
        return n;
    }

    /** Of each WORTH that positions of the SET told with a SIDE have: how many. */
    TreeMap<Integer, Integer> tallies(int side) {
        TreeMap<Integer, Integer> all = new TreeMap<>();
        for (Map.Entry<String, Integer> e : solved.entrySet()) {
            String k = e.getKey();
            String men = sorted(k.substring(0, k.length() - 1).replaceAll("[^A-Za-z]", ""));
            if (k.endsWith("" + side) && men.equals(toldSet)) all.merge(e.getValue(), 1, Integer::sum);
        }
        return all;
    }

    // ------------------------------------------------------------- problems

    private boolean makes(Pos behind, int goal) {
        return goal == 0 ? end(behind) == 5 : goal == 1 ? end(behind) == 6 : winner(behind) == 1 - behind.side;
    }

    private boolean direct(Pos p, Mv m, int goal, int n) {
        Pos q = after(p, m);
        if (makes(q, goal)) return true;
        if (end(q) != 0 || n == 1) return false;
        return refutations(q, 0, goal, n) == 0;
    }

    private boolean self(Pos p, Mv m, int goal, int n) {
        Pos q = after(p, m);
        return end(q) == 0 && refutations(q, 1, goal, n) == 0;
    }

    /** Of replies in q: behind which there is no such move with n - 1. */
    private int refutations(Pos q, int kind, int goal, int n) {
        int sum = 0;
        for (Mv reply : legal(q)) {
            Pos x = after(q, reply);
            if (kind == 1 && makes(x, goal)) continue;
            boolean any = false;
            if (n > 1) for (Mv m : legal(x)) any |= kind == 0 ? direct(x, m, goal, n - 1) : self(x, m, goal, n - 1);
            if (!any) sum++;
        }
        return sum;
    }

    private int helpRows(Pos p, int goal, int moves) {
        int sum = 0;
        for (Mv m : legal(p)) sum += helpRow(p, m, goal, moves);
        return sum;
    }

    private int helpRow(Pos p, Mv m, int goal, int moves) {
        Pos q = after(p, m);
        return moves == 1 ? makes(q, goal) ? 1 : 0 : helpRows(q, goal, moves - 1);
    }

    private Pos again(Pos q) {
        if (end(q) != 0 || (royal(q, q.side) != NONE && hit(q, royal(q, q.side), 1 - q.side))) return null;
        Pos x = q.copy();
        x.side = 1 - q.side;
        x.pass = new ArrayList<>();
        return x;
    }

    private int seriesRow(Pos p, Mv m, int goal, int moves) {
        Pos q = after(p, m);
        if (moves == 1) return makes(q, goal) ? 1 : 0;
        Pos x = again(q);
        int sum = 0;
        if (x != null) for (Mv n : legal(x)) sum += seriesRow(x, n, goal, moves - 1);
        return sum;
    }

    private void countSeries(Pos p, int depth, int k, int[] counts) {
        List<Mv> all = legal(p);
        counts[depth] += all.size();
        if (counts[depth] > 100000) throw new Fault(0);
        if (depth + 1 < k)
            for (Mv m : all) {
                Pos x = again(after(p, m));
                if (x != null) countSeries(x, depth + 1, k, counts);
            }
    }

    int problem(int p, int kind, int goal, int n) {
        if (bad(kind, 3) || bad(goal, 2) || n < 1 || n > 4) return OUTSIDE;
        Pos q = get(p);
        if (q == null) return UNKNOWN;
        if (end(q) != 0) return STATE;
        try {
            if (kind == 3) countSeries(q, 0, n, new int[10]);
            else countRows(q, 0, kind == 0 ? 2 * n - 1 : 2 * n, new int[10]);
        } catch (Fault f) {
            return ROOM;
        }
        problemPos = q;
        problemPlace = p;
        problemKind = kind;
        keys = new ArrayList<>();
        refuted = new ArrayList<>();
        int sum = 0;
        List<Mv> all = legal(q);
        for (int i = 0; i < all.size(); i++) {
            Mv m = all.get(i);
            int value = kind == 0 ? direct(q, m, goal, n) ? 1 : 0 : kind == 1 ? self(q, m, goal, n) ? 1 : 0
                : kind == 2 ? helpRow(q, m, goal, 2 * n) : seriesRow(q, m, goal, n);
            if (value > 0) keys.add(i);
            sum += value;
            Pos x = after(q, m);
            refuted.add(kind > 1 || end(x) != 0 ? 0 : refutations(x, kind, goal, n));
        }
        return sum;
    }

    int key(int k) { return problemPos == null || k < 0 || k >= keys.size() ? NONE : keys.get(k); }

    int refutes(int i) {
        return problemPos == null || problemKind > 1 || i < 0 || i >= refuted.size() ? NONE : refuted.get(i);
    }
}
