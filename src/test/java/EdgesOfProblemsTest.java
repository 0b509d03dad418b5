/** Promises 36 to 38, section 9, and the limit of 100000 ROWS, at their edges. */
public final class EdgesOfProblemsTest {
    private static final int LEAST = Integer.MIN_VALUE, MOST = Integer.MAX_VALUE;
    private static final int[] NO_PLACES = {1, -1, 59, 60, LEAST, MOST};
    private static final int DIRECT = 0, SELF = 1, HELP = 2, SERIES = 3;
    private static final int MATE = 0, STALEMATE = 1, WON = 2;
    private static final String KINGS = "board 3 3;man k 0 1;man r 0 1 ride 2;royal k;";
    /** Men that go ahead, one step at a time, and are stopped at the edge. */
    private static final String RUNNERS = "board 3 8;man a to fore 0 1;";

    public static void main(String[] args) {
        rowsLimit();
        rowsOfAnyLength();
        problemLimits();
        longerProblemLimits();
        seriesLimit();
        seriesOfDrops();
        refused();
        ended();
        direct();
        directEnds();
        self();
        help();
        series();
        seriesChecks();
        keys();
        keysKept();
        refutes();
        Check.finish();
    }

    /**
     * RULES for a board whose squares fall into sixteen rows of four, 4 files or ranks apart. A man c has just three moves in its
     * row; s and t go along theirs, a1 e1 e5 and b2 f2 f6, by one move at each square, since men i stand in the way; i has none.
     */
    private static String clockwork(String moreOfS, String moreOfT) {
        return "board 8 8;man c to 0 4,to 4 4;man i to fore 7 7;man s to fore 4 0 from 1,to fore 0 4 from 1,to fore 0 -4 from 5" + moreOfS
            + ";man t to fore 4 0 from 7,to fore 0 -4 from 7,to fore 0 4 from 3" + moreOfT + ";man x on fore 1 1;";
    }

    /** Ten moves for each side, whatever was moved before. */
    private static final String TEN = "/1i6/I7/8/c7/Ctcc4/S1CC4 w - - - 00 0";
    /** Over t on f6, once s stands on e5; over s on e5, once t stands on f6. */
    private static final String S_OVER_T = ",to over fore 1 1 ride 2 from 5", T_OVER_S = ",to over fore -1 1 ride 2 from 3";

    /** "ROOM: there are more than 100000 of a length up to k" */
    private static void rowsLimit() {
        Check c = new Check("just 100000 rows", clockwork("", ""));
        int p = c.position("8/8" + TEN);
        int n = 1;
        for (int k = 0; k <= 5; k++) {
            c.due("rows of " + k, c.x.rows(p, k), n);
            n *= 10;
        }
        c.due("rows of 6", c.x.rows(p, 6), Check.ROOM);
        Check d = new Check("100001 rows", clockwork(S_OVER_T, ""));
        p = d.position("8/8" + TEN);
        d.due("rows of 4", d.x.rows(p, 4), 10000);
        d.due("rows of 5", d.x.rows(p, 5), Check.ROOM);
        d.due("rows of 3, behind a refusal", d.x.rows(p, 3), 1000);
        // By the one row of 4 that makes it possible.
        int q = p;
        for (String m : new String[] {"Se1", "Tf2", "Se5", "Tf6"}) q = d.after(q, m);
        d.due("eleven moves", d.x.moves(q), 11);
        d.due("one of them over the other man", d.hear(q, "Sg7") >= 0 ? 1 : 0, 1);
    }

    /** Of a shorter length there are too many, though none is of length k. */
    private static void rowsOfAnyLength() {
        StringBuilder r = new StringBuilder("board 8 8;hand;");
        StringBuilder hand = new StringBuilder();
        for (char m = 'a'; m < 'm'; m++) {
            r.append("man ").append(m).append(" to fore 0 1 from 7;");
            hand.append(Character.toUpperCase(m));
        }
        Check c = new Check("rows of any length", r.toString());
        // BLACK has one move in all: a man that steps onto its last rank.
        int p = c.position("8/8/8/8/8/8/a7/8 w - - " + hand + " 00 0");
        c.due("rows of 1", c.x.rows(p, 1), 63 * 12);
        // Behind those 12 that stand in its way it has none.
        c.due("rows of 2", c.x.rows(p, 2), 62 * 12);
        c.due("rows of 3", c.x.rows(p, 3), Check.ROOM);
        c.due("rows of 4, of which there are none", c.x.rows(p, 4), Check.ROOM);
        c.due("rows of 6, of which there are none", c.x.rows(p, 6), Check.ROOM);
        c.due("help in 2", c.x.problem(p, HELP, STALEMATE, 2), Check.ROOM);
        c.due("help in 1", c.x.problem(p, HELP, STALEMATE, 1) >= 0 ? 1 : 0, 1);
    }

    /** "A problem has at most 100000 ROWS of each length up to 2 n - 1 (0)" */
    private static void problemLimits() {
        Check c = new Check("a problem of just 100000 rows", clockwork("", ""));
        int p = c.position("8/8" + TEN);
        for (int goal = 0; goal < 3; goal++) c.due("direct in 3", c.x.problem(p, DIRECT, goal, 3), 0);
        for (int i = 0; i < 10; i++) c.due("all replies refute", c.x.refutes(i), 10);
        c.due("direct in 4", c.x.problem(p, DIRECT, MATE, 4), Check.ROOM);
        for (int kind : new int[] {SELF, HELP}) {
            c.due("rows of 4", c.x.problem(p, kind, MATE, 2), 0);
            c.due("rows of 6", c.x.problem(p, kind, MATE, 3), Check.ROOM);
        }
        c.due("series of 4", c.x.problem(p, SERIES, MATE, 4), 0);
        Check d = new Check("a problem of 100001 rows", clockwork(S_OVER_T, ""));
        p = d.position("8/8" + TEN);
        d.due("direct in 2", d.x.problem(p, DIRECT, MATE, 2), 0);
        d.due("direct in 3", d.x.problem(p, DIRECT, MATE, 3), Check.ROOM);
        d.due("a refusal leaves the one before", d.x.refutes(9), 10);
        d.due("a refusal leaves the one before", d.x.refutes(10), Check.NONE);
    }

    /** ".. 2 n (1, 2)": WHITE must take first, which it can in one way; then there are ten moves each time. */
    private static void longerProblemLimits() {
        String forced = "7i/6X1" + TEN;
        Check c = new Check("just 100000 rows of 6", clockwork("", "") + "must;");
        int p = c.position(forced);
        int[] want = {1, 1, 10, 100, 1000, 10000, 100000};
        for (int k = 0; k <= 6; k++) c.due("rows of " + k, c.x.rows(p, k), want[k]);
        for (int kind : new int[] {SELF, HELP}) {
            c.due("rows of 6", c.x.problem(p, kind, MATE, 3), 0);
            c.due("rows of 8", c.x.problem(p, kind, MATE, 4), Check.ROOM);
        }
        c.due("rows of 7", c.x.problem(p, DIRECT, MATE, 4), Check.ROOM);
        Check d = new Check("100001 rows of 6", clockwork("", T_OVER_S) + "must;");
        p = d.position(forced);
        d.due("rows of 5", d.x.rows(p, 5), 10000);
        d.due("rows of 6", d.x.rows(p, 6), Check.ROOM);
        for (int kind : new int[] {SELF, HELP}) {
            d.due("rows of 4", d.x.problem(p, kind, MATE, 2), 0);
            d.due("rows of 6", d.x.problem(p, kind, MATE, 3), Check.ROOM);
        }
        d.due("direct asks for rows of 5 alone", d.x.problem(p, DIRECT, MATE, 3), 0);
    }

    /** ".. n (3)": 17 moves each time make 83521 rows of 4, 18 make 104976. */
    private static void seriesLimit() {
        Check d = new Check("series, too many", clockwork("", ""));
        int p = d.position("8/8/8/8/8/8/CC5c/CCCC4 w - - - 00 0");
        d.due("18 moves", d.x.moves(p), 18);
        d.due("rows of 3", d.x.problem(p, SERIES, STALEMATE, 3), 0);
        d.due("rows of 4", d.x.problem(p, SERIES, STALEMATE, 4), Check.ROOM);
        Check e = new Check("series, 17 moves", clockwork("", "") + "man b to 0 4;");
        p = e.position("8/8/8/8/8/8/CB5c/CCCC4 w - - - 00 0");
        e.due("17 moves", e.x.moves(p), 17);
        e.due("rows of 4", e.x.problem(p, SERIES, STALEMATE, 4), 0);
    }

    /** ".. n (3)": two DROPS in 100000 ways; with one man that may go over the one dropped on b1 there is one row more. */
    private static void seriesOfDrops() {
        StringBuilder r = new StringBuilder("board 6 8;hand;man s 7 7;man i 7 7;man z over fore 1 0 ride 2;");
        for (char m = 'a'; m < 'j'; m++) {
            char inner = m == 'i' ? 'j' : m;
            r.append("man ").append(inner).append(" 7 7;becomes ").append(inner).append(" s;");
        }
        // 42 squares are empty, 32 of them neither on the first nor on the last rank; a second man of a to e may follow.
        String text = "5I/6/6/6/IIII2/6/6/%s5 w - - SAABBCCDDEEFGHJs 00 0";
        Check c = new Check("series of drops", r.toString());
        int p = c.position(String.format(text, "I"));
        int q = c.position(String.format(text, "Z"));
        c.due("moves", c.x.moves(p), 42 + 9 * 32);
        c.due("moves", c.x.moves(q), 42 + 9 * 32);
        c.due("just 100000 rows", c.x.problem(p, SERIES, STALEMATE, 2), 0);
        c.due("100001 rows", c.x.problem(q, SERIES, STALEMATE, 2), Check.ROOM);
        c.due("rows of 1", c.x.problem(q, SERIES, STALEMATE, 1), 0);
        q = c.after(q, "S@b1");
        q = c.after(q, "S@a8");
        c.due("over the one that was dropped", c.hear(q, "Zc1") >= 0 ? 1 : 0, 1);
    }

    /** Promise 36: "a kind (0 .. 3), with a GOAL (0 .. 2), in n moves (1 .. 4) [..] OUTSIDE, UNKNOWN, STATE, ROOM" */
    private static void refused() {
        Check c = new Check("promise 36", RUNNERS);
        c.position("2a/3/3/3/3/3/3/A2 w - - - 00 0");
        for (int wrong : new int[] {-1, LEAST, MOST}) {
            for (int p : new int[] {0, 7}) {
                c.due("kind " + wrong, c.x.problem(p, wrong, 0, 1), Check.OUTSIDE);
                c.due("goal " + wrong, c.x.problem(p, 0, wrong, 1), Check.OUTSIDE);
                c.due("n " + wrong, c.x.problem(p, 0, 0, wrong), Check.OUTSIDE);
            }
        }
        c.due("kind 4", c.x.problem(0, 4, 0, 1), Check.OUTSIDE);
        c.due("goal 3", c.x.problem(0, 0, 3, 1), Check.OUTSIDE);
        c.due("n 0", c.x.problem(0, 0, 0, 0), Check.OUTSIDE);
        c.due("n 5", c.x.problem(0, 0, 0, 5), Check.OUTSIDE);
        for (int p : NO_PLACES) c.due("position " + p, c.x.problem(p, 0, 0, 1), Check.UNKNOWN);
        c.due("no problem was there", c.x.key(0), Check.NONE);
        c.due("no problem was there", c.x.refutes(0), Check.NONE);
        for (int kind = 0; kind <= 3; kind++)
            for (int goal = 0; goal <= 2; goal++)
                for (int n = 1; n <= 4; n++) c.due("problem(0, " + kind + ", " + goal + ", " + n + ")", c.x.problem(0, kind, goal, n), 0);
    }

    /** "STATE: the position has ENDED" */
    private static void ended() {
        String[][] all = {{KINGS + "hill a1;", "2k/3/K2 w - - - 00 0"}, {KINGS + "checks 1;", "2k/3/K2 w - - - 10 0"}, {KINGS, "3/3/K2 w - - - 00 0"}, {KINGS, "k1R/3/K2 b - - - 00 0"},
            {KINGS, "k1K/2R/1R1 b - - - 00 0"}};
        int[] by = {2, 3, 4, 5, 6};
        for (int i = 0; i < all.length; i++) {
            Check c = new Check("ended by " + by[i], all[i][0]);
            int p = c.position(all[i][1]);
            c.due("ended", c.x.ended(p), by[i]);
            for (int kind = 0; kind <= 3; kind++) c.due("kind " + kind, c.x.problem(p, kind, 0, 1), Check.STATE);
            c.due("OUTSIDE is told first", c.x.problem(p, 4, 0, 1), Check.OUTSIDE);
            c.due("UNKNOWN is told first", c.x.problem(p + 1, 0, 0, 1), Check.UNKNOWN);
        }
    }

    /** "a LEGAL move makes the GOAL, or leads to a position that has not ENDED, and n is above 1 [..]" */
    private static void direct() {
        // WHITE has w moves left, BLACK b, each in a row: BLACK is out of moves behind WHITE's move b + 1.
        for (int b = 0; b <= 5; b++) {
            Check c = new Check("direct, " + b + " moves of BLACK", RUNNERS);
            String[] rows = {"3", "3", "3", "3", "3", "3", "3", "3"};
            rows[7] = "A2";
            rows[7 - b] = rows[7 - b].equals("A2") ? "A1a" : "2a";
            int p = c.position(String.join("/", rows) + " w - - - 00 0");
            for (int n = 1; n <= 4; n++) {
                // A shorter one is a longer one, too: the GOAL may come sooner.
                c.due("in " + n, c.x.problem(p, DIRECT, STALEMATE, n), n >= b + 1 ? 1 : 0);
                c.due("no mate", c.x.problem(p, DIRECT, MATE, n), 0);
                c.due("refutes", c.x.refutes(0), b == 0 ? 0 : 1);
                c.due("not won", c.x.problem(p, DIRECT, WON, n), 0);
            }
        }
    }

    /** A move that leads to an end that is no GOAL is none of them. */
    private static void directEnds() {
        Check c = new Check("an end that is no goal", KINGS);
        int p = c.position("k1K/3/1RR w - - - 00 0");
        int stale = c.hear(p, "Rc2");
        c.due("mate", c.x.problem(p, DIRECT, MATE, 1), 1);
        c.due("key", c.said(p, c.x.key(0)), "Ra1#");
        c.due("an end has no refutes", c.x.refutes(stale), 0);
        c.due("stalemate", c.x.problem(p, DIRECT, STALEMATE, 1) > 0 ? 1 : 0, 1);
        boolean there = false;
        for (int k = 0; c.x.key(k) != Check.NONE; k++) there |= c.x.key(k) == stale;
        c.due("Rc2 makes it", there ? 1 : 0, 1);
        c.due("in 2 a stalemate is no mate", c.x.problem(p, DIRECT, MATE, 2) > 0 ? 1 : 0, 1);
        there = false;
        for (int k = 0; c.x.key(k) != Check.NONE; k++) there |= c.x.key(k) == stale;
        c.due("Rc2 is no key of it", there ? 1 : 0, 0);
        c.due("though it has no refutes", c.x.refutes(stale), 0);
        Check d = new Check("the mover's own end", "board 3 3;man a 0 1;bare won;");
        p = d.position("3/3/Aa1 w - - - 00 0");
        d.due("the one that takes has not won", d.x.problem(p, DIRECT, WON, 1), 0);
        d.due("an end has no refutes", d.x.refutes(d.hear(p, "Axb1")), 0);
    }

    /** "a LEGAL move leads to a position that has not ENDED, and each LEGAL reply makes the GOAL, or [..]" */
    private static void self() {
        for (int w = 0; w <= 5; w++) {
            Check c = new Check("self, " + w + " moves of WHITE", RUNNERS);
            String[] rows = {"2a", "3", "3", "3", "3", "3", "3", "3"};
            rows[w] = w == 0 ? "A1a" : "A2";
            int p = c.position(String.join("/", rows) + " w - - - 00 0");
            if (w == 0) {
                c.due("ended", c.x.problem(p, SELF, STALEMATE, 1), Check.STATE);
                continue;
            }
            // Behind WHITE's last move BLACK's reply leaves it without one.
            for (int n = 1; n <= 4; n++) {
                c.due("in " + n, c.x.problem(p, SELF, STALEMATE, n), n >= w ? 1 : 0);
                c.due("refutes", c.x.refutes(0), n >= w ? 0 : 1);
                c.due("no mate", c.x.problem(p, SELF, MATE, n), 0);
            }
        }
        // A move that makes the GOAL itself is none: it leads to a position that has ENDED.
        Check c = new Check("self, an end", RUNNERS);
        int p = c.position("3/3/3/3/3/3/A2/2a w - - - 00 0");
        c.due("direct", c.x.problem(p, DIRECT, STALEMATE, 1), 1);
        c.due("self", c.x.problem(p, SELF, STALEMATE, 1), 0);
        c.due("an end has no refutes", c.x.refutes(0), 0);
        c.due("self in 4", c.x.problem(p, SELF, STALEMATE, 4), 0);
    }

    /** "rows of 2 n LEGAL moves, the last of which makes the GOAL" */
    private static void help() {
        for (int w = 1; w <= 5; w++) {
            Check c = new Check("help, " + w + " moves of WHITE", RUNNERS);
            String[] rows = {"2a", "3", "3", "3", "3", "3", "3", "3"};
            rows[w] = "A2";
            int p = c.position(String.join("/", rows) + " w - - - 00 0");
            // Just 2 n: neither sooner nor later.
            for (int n = 1; n <= 4; n++) {
                c.due("in " + n, c.x.problem(p, HELP, STALEMATE, n), n == w ? 1 : 0);
                c.due("key", c.x.key(0), n == w ? 0 : Check.NONE);
                c.due("refutes, another kind", c.x.refutes(0), Check.NONE);
            }
        }
        // Two men of WHITE, with a move each: rows by either of them first.
        Check c = new Check("help, two ways", RUNNERS);
        int p = c.position("2a/AA1/3/3/3/3/3/3 w - - - 00 0");
        c.due("in 2", c.x.problem(p, HELP, STALEMATE, 2), 2);
        c.due("keys", c.x.key(0) * 10 + c.x.key(1), 1);
        c.due("no third", c.x.key(2), Check.NONE);
    }

    /** "rows of n LEGAL moves of the side to move alone [..] the last makes the GOAL" */
    private static void series() {
        Check c = new Check("series", "board 3 8;man a to fore 0 1;man b on fore 1 1;");
        int p = c.position("3/3/3/1b1/3/A2/3/3 w - - - 00 0");
        // BLACK has no move, so that the first move of WHITE leads to an end: no row goes on behind it.
        for (int n = 1; n <= 4; n++) c.due("stalemate in " + n, c.x.problem(p, SERIES, STALEMATE, n), n == 1 ? 1 : 0);
        for (int n = 1; n <= 4; n++) c.due("won in " + n, c.x.problem(p, SERIES, WON, n), 0);
        Check d = new Check("series, a way to go", "board 3 8;man a to fore 0 1,on fore 1 1;");
        // WHITE's man goes ahead until it can take the other one.
        p = d.position("3/3/1a1/3/3/A2/3/3 w - - - 00 0");
        for (int n = 1; n <= 4; n++) d.due("won in " + n, d.x.problem(p, SERIES, WON, n), n == 3 ? 1 : 0);
        d.due("PASS is none then", seriesByCatch(), 0);
    }

    /** Rows of WHITE's two moves that take by catch what went by itself. */
    private static int seriesByCatch() {
        Check c = new Check("series, pass", "board 3 4;man p to fore pass 0 1 ride 2;man c to catch fore 1 1;man i to fore 2 3;");
        // Of PASS b3b2 the man c of a1 could make a taking, were it still there.
        int p = c.position("2i/3/3/CP1 w - - - 00 0");
        return c.x.problem(p, SERIES, WON, 2);
    }

    /** "behind each but the last the position has not ENDED, the ROYAL man of the other side is not ATTACKED" */
    private static void seriesChecks() {
        Check c = new Check("series, checks", "board 3 3;man k 0 1;man r 0 1 ride 2;royal k;");
        int p = c.position("k2/3/K1R w - - - 00 0");
        c.due("in 1", c.x.problem(p, SERIES, MATE, 1), 1);
        int rows = 0;
        int n = c.x.moves(p);
        for (int i = 0; i < n; i++) {
            int q = c.x.go(p, i);
            boolean on = c.x.ended(q) == 0 && c.x.attacked(q, 6, 0) == 0;
            String t = c.written(q).replace(" b ", " w ");
            c.x.drop(q);
            if (!on) continue;
            int again = c.position(t);
            rows += c.x.problem(again, DIRECT, MATE, 1);
            c.x.drop(again);
        }
        c.due("in 2", c.x.problem(p, SERIES, MATE, 2), rows);
        c.due("some", rows > 0 ? 1 : 0, 1);
        Check d = new Check("series, CHECKS as they come", "board 3 3;man k 0 1;man r 0 1 ride 2;royal k;checks 1;");
        p = d.position("k2/3/1KR w - - - 00 0");
        d.due("won in 1", d.x.problem(p, SERIES, WON, 1), 1);
        d.due("key", d.said(p, d.x.key(0)), "Rc3#");
    }

    /** Promise 37: "NONE: none such, or the position is no more." */
    private static void keys() {
        Check c = new Check("promise 37", RUNNERS);
        int p = c.position("3/3/3/3/3/3/AAA/a1a w - - - 00 0");
        for (int k : new int[] {0, -1, LEAST, MOST}) c.due("no problem yet", c.x.key(k), Check.NONE);
        c.due("three", c.x.problem(p, DIRECT, STALEMATE, 1), 3);
        for (int k = 0; k < 3; k++) c.due("key(" + k + ")", c.x.key(k), k);
        for (int k : new int[] {3, -1, LEAST, MOST}) c.due("key(" + k + ")", c.x.key(k), Check.NONE);
        c.due("none", c.x.problem(p, DIRECT, MATE, 1), 0);
        c.due("none", c.x.key(0), Check.NONE);
    }

    /** "of the latest problem() that was not refused" */
    private static void keysKept() {
        Check c = new Check("promise 37, kept", RUNNERS);
        int p = c.position("3/3/3/3/3/3/AAA/a1a w - - - 00 0");
        int q = c.position("2a/3/3/3/3/3/3/A2 w - - - 00 0");
        int e = c.position("A2/3/3/3/3/3/3/2a w - - - 00 0");
        c.due("three", c.x.problem(p, DIRECT, STALEMATE, 1), 3);
        c.due("OUTSIDE", c.x.problem(q, 9, 0, 1), Check.OUTSIDE);
        c.due("UNKNOWN", c.x.problem(9, 0, 0, 1), Check.UNKNOWN);
        c.due("STATE", c.x.problem(e, 0, 0, 1), Check.STATE);
        c.due("kept", c.x.key(2), 2);
        c.due("kept", c.x.refutes(2), 0);
        c.x.rows(q, 3);
        c.x.drop(q);
        c.x.drop(e);
        c.due("another one goes", c.x.key(2), 2);
        c.due("FAULT of RULES", c.rules("board 3") < 0 ? 1 : 0, 1);
        c.due("kept", c.x.key(2), 2);
        c.x.drop(p);
        c.due("the position is no more", c.x.key(0), Check.NONE);
        c.due("the position is no more", c.x.refutes(0), Check.NONE);
        c.due("another one in its place", c.position("3/3/3/3/3/3/AAA/a1a w - - - 00 0"), p);
        c.due("is not that one", c.x.key(0), Check.NONE);
        c.due("is not that one", c.x.refutes(0), Check.NONE);
        c.due("asked again", c.x.problem(p, DIRECT, STALEMATE, 1), 3);
        c.due("asked again", c.x.key(1), 1);
        c.due("RULES", c.rules(RUNNERS), 1);
        c.due("no more", c.x.key(1), Check.NONE);
        c.due("no more", c.x.refutes(1), Check.NONE);
    }

    /** Promise 38: "NONE: another kind, no such move, or the position is no more." */
    private static void refutes() {
        Check c = new Check("promise 38", RUNNERS);
        int p = c.position("a1a/3/3/3/3/3/3/AA1 w - - - 00 0");
        for (int i : new int[] {0, -1, LEAST, MOST}) c.due("no problem yet", c.x.refutes(i), Check.NONE);
        for (int kind : new int[] {DIRECT, SELF}) {
            for (int n = 1; n <= 3; n++) {
                c.due("none", c.x.problem(p, kind, MATE, n), 0);
                for (int i = 0; i < 2; i++) c.due("both replies refute", c.x.refutes(i), 2);
                for (int i : new int[] {2, -1, LEAST, MOST}) c.due("no such move", c.x.refutes(i), Check.NONE);
            }
        }
        for (int kind : new int[] {HELP, SERIES}) {
            c.x.problem(p, kind, MATE, 1);
            for (int i = -1; i <= 2; i++) c.due("another kind", c.x.refutes(i), Check.NONE);
        }
        // Of the replies behind a move some refute, and some do not.
        Check d = new Check("promise 38, some", "board 3 8;man a to fore 0 1;man b to fore 0 1 ride 2;");
        p = d.position("3/3/3/3/3/2b/3/A2 w - - - 00 0");
        d.due("no key", d.x.problem(p, DIRECT, STALEMATE, 2), 0);
        d.due("one of two", d.x.refutes(0), 1);
        d.due("with one move more it is one", d.x.problem(p, DIRECT, STALEMATE, 3), 1);
        d.due("none", d.x.refutes(0), 0);
    }
}
