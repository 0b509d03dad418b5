/** Promises 31 to 35: positions a move before, and ENDINGS. */
public final class EndingsTest {
    private static final String KINGS = "man k 0 1, 1 1; man q 0 1 ride 7, 1 1 ride 7; man r 0 1 ride 7; royal k;";

    public static void main(String[] args) {
        before();
        beforeOrder();
        beforeRight();
        beforeBecoming();
        beforeRefused();
        solved();
        solvedAll();
        solvedWith();
        faults();
        refused();
        Check.finish();
    }

    private static String all(Check c, int n) {
        StringBuilder b = new StringBuilder();
        for (int k = 0; k < n; k++) {
            int p = c.x.beforeAt(k);
            b.append(k > 0 ? " | " : "").append(c.written(p));
            c.x.drop(p);
        }
        return b.toString();
    }

    private static void found(Check c, String position, String... want) {
        int p = c.position(position);
        int n = c.x.before(p);
        c.due("before " + position, n, want.length);
        c.due("before " + position, all(c, n), String.join(" | ", want));
        c.x.drop(p);
    }

    private static void before() {
        Check c = new Check("before", "board 3 3; man a fore 0 1;");
        found(c, "2a/A2/3 b - - - 00 17", "2a/3/A2 w - - - 00 0", "2a/a2/A2 w - - - 00 0");
        found(c, "2a/A2/3 w - - - 00 17");
        found(c, "2a/3/A2 w - - - 00 0");
        found(c, "3/A1a/3 w - - - 00 0", "2a/A1A/3 b - - - 00 0", "2a/A2/3 b - - - 00 0");
        found(c, "3/2a/3 w - - - 00 0", "2a/2A/3 b - - - 00 0");
        Check d = new Check("before with to and on", "board 3 3; man a to fore 0 1, on fore 1 1;");
        found(d, "2a/1A1/3 b - - - 00 0", "2a/1a1/A2 w - - - 00 0", "2a/3/1A1 w - - - 00 0");
        Check e = new Check("before with from and ride", "board 3 4; man a fore 0 1 ride 2 from 2;");
        found(e, "A1a/3/3/3 b - - - 00 0", "2a/3/A2/3 w - - - 00 0", "a1a/3/A2/3 w - - - 00 0");
        found(e, "A1a/a2/3/3 b - - - 00 0");
        Check g = new Check("before with must", "board 3 3; man a 0 1; must;");
        found(g, "3/A2/a2 b - - - 00 0", "3/1A1/a2 w - - - 00 0", "3/aA1/a2 w - - - 00 0", "A2/3/a2 w - - - 00 0", "A2/a2/a2 w - - - 00 0");
        found(g, "3/A1a/3 b - - - 00 0", "3/2a/A2 w - - - 00 0", "3/a1a/A2 w - - - 00 0", "3/aAa/3 w - - - 00 0", "A2/2a/3 w - - - 00 0", "A2/a1a/3 w - - - 00 0");
    }

    private static void beforeOrder() {
        Check c = new Check("before, in order", "board 4 3; man a 0 1 ride 3; man b 0 1;");
        found(c, "4/1A1b/4 b - - - 00 0", "1A2/1a1b/4 w - - - 00 0", "1A2/1b1b/4 w - - - 00 0", "1A2/3b/4 w - - - 00 0",
            "4/1a1b/1A2 w - - - 00 0", "4/1aAb/4 w - - - 00 0", "4/1b1b/1A2 w - - - 00 0", "4/1bAb/4 w - - - 00 0",
            "4/2Ab/4 w - - - 00 0", "4/3b/1A2 w - - - 00 0", "4/A2b/4 w - - - 00 0", "4/Aa1b/4 w - - - 00 0", "4/Ab1b/4 w - - - 00 0");
    }

    private static void beforeRight() {
        Check c = new Check("before, right ones", "board 3 3; man k 0 1; man r 0 1 ride 2; royal k;");
        // From a3 and b2 the rook would have stood in check, and so would it with a man taken on a2 or not.
        found(c, "2k/3/K1R b - - - 00 0", "2k/3/KR1 w - - - 00 0", "2k/3/KRr w - - - 00 0");
        found(c, "k2/3/2K b - - - 00 0", "k2/2K/2r w - - - 00 0", "k2/2K/3 w - - - 00 0", "k2/3/1K1 w - - - 00 0", "k2/3/1Kr w - - - 00 0");
        Check d = new Check("before with shy", "board 3 3; man k 0 1; man r 0 1 ride 2; royal k; shy;");
        found(d, "2k/3/K1R b - - - 00 0");
        Check e = new Check("before with hill", "board 3 3; man k 0 1; royal k; hill b1;");
        found(e, "k2/3/2K b - - - 00 0", "k2/2K/3 w - - - 00 0");
        found(e, "k2/3/1K1 b - - - 00 0", "k2/1K1/3 w - - - 00 0", "k2/3/2K w - - - 00 0", "k2/3/K2 w - - - 00 0");
    }

    private static void beforeBecoming() {
        Check c = new Check("before, becoming", "board 3 3; man p to fore 0 1, on fore 1 1; man q 1 1; becomes p q;");
        found(c, "1Q1/3/q2 b - - - 00 0", "1p1/2Q/q2 w - - - 00 0", "1p1/P2/q2 w - - - 00 0", "1p1/Q2/q2 w - - - 00 0",
            "1q1/2Q/q2 w - - - 00 0", "1q1/P2/q2 w - - - 00 0", "1q1/Q2/q2 w - - - 00 0",
            "3/1P1/q2 w - - - 00 0", "3/2Q/q2 w - - - 00 0", "3/Q2/q2 w - - - 00 0");
    }

    private static void beforeRefused() {
        for (String more : new String[] {"hand;", "blast;", "checks 2;"}) {
            Check c = new Check("before with " + more, Check.CHESS + more);
            c.due("no position", c.x.before(0), Check.UNKNOWN);
            c.position(Check.START);
            c.due("before", c.x.before(0), Check.STATE);
        }
        Check c = new Check("before refused");
        int p = c.position(Check.START);
        // A knight came from four squares, and took there a queen, a rook, a bishop, a knight, or nothing.
        c.due("before", c.x.before(p), 20);
        c.due("beforeAt(20)", c.x.beforeAt(20), Check.UNKNOWN);
        c.due("beforeAt(-1)", c.x.beforeAt(-1), Check.UNKNOWN);
        c.due("before(9)", c.x.before(9), Check.UNKNOWN);
        c.due("drop", c.x.drop(p), 1);
        for (int i = 0; i < 60; i++) c.due("beforeAt(0)", c.x.beforeAt(0), i);
        c.due("no room", c.x.beforeAt(0), Check.ROOM);
        c.due("no such one is told first", c.x.beforeAt(20), Check.UNKNOWN);
        StringBuilder rules = new StringBuilder("board 8 8;");
        for (char m = 'a'; m < 'm'; m++) rules.append("man ").append(m).append(" 1 2, 0 2, 0 3, 1 3, 2 2, 2 3, 3 3, 1 1;");
        Check d = new Check("before, too many", rules.toString());
        p = d.position("7a/8/8/8/8/8/8/A7 b - - - 00 0");
        d.due("few", d.x.before(p) > 0 ? 1 : 0, 1);
        d.due("beforeAt(0)", d.x.beforeAt(0), 1);
        d.due("too many", d.x.before(d.position("a7/8/2ABCDEF/8/2ABCDEF/8/2ABCDEF/8 b - - - 00 0")), Check.ROOM);
        d.due("what was found is no more", d.x.beforeAt(0), Check.UNKNOWN);
    }

    /** What is known of chess: a queen mates in 10 moves at the latest, a rook in 16. */
    private static void solved() {
        Check c = new Check("solved", "board 8 8; " + KINGS);
        c.due("nothing yet", c.x.tally(0, 0), Check.STATE);
        c.due("KQk", c.solve("kQK"), 2);
        c.due("mates", c.x.tally(1, -1000000), 364);
        c.due("in 10", c.x.tally(1, 20 - 1000000) > 0 ? 1 : 0, 1);
        c.due("in no more", c.x.tally(1, 21 - 1000000) + c.x.tally(1, 22 - 1000000), 0);
        c.due("WHITE in 10", c.x.tally(0, 1000000 - 19) > 0 ? 1 : 0, 1);
        c.due("WHITE in no more", c.x.tally(0, 1000000 - 21), 0);
        c.due("WHITE never draws", c.x.tally(0, 0), 0);
        c.due("a rook is not solved", c.x.worth(c.position("8/8/8/8/8/2K5/1R6/k7 b - - - 00 0")), Check.STATE);
        c.due("KRk", c.solve("KRk"), 2);
        c.due("in 16", c.x.tally(1, 32 - 1000000) > 0 ? 1 : 0, 1);
        c.due("in no more", c.x.tally(1, 33 - 1000000) + c.x.tally(1, 34 - 1000000), 0);
        c.due("mate", c.x.worth(c.position("k1R5/8/1K6/8/8/8/8/8 b - - - 00 0")), 1000000);
        c.due("one move later", c.x.worth(c.position("k7/8/1K6/8/8/8/8/2R5 w - - - 00 77")), 2999999);
        c.due("two moves later", c.x.worth(c.position("1k6/8/1K6/8/8/8/8/2R5 b - - - 00 0")), 1000002);
        c.due("stalemate", c.x.worth(c.position("k7/1R6/2K5/8/8/8/8/8 b - - - 00 0")), 2000000);
        c.due("kings alone", c.x.worth(c.position("k7/8/1K6/8/8/8/8/8 b - - - 00 0")), 2000000);
        c.due("a rook that is lost", c.x.worth(c.position("8/8/8/8/8/8/1R6/k6K b - - - 00 0")), 2000000);
        c.due("BLACK's rook is not solved", c.x.worth(c.position("8/8/8/8/8/2k5/1r6/K7 w - - - 00 0")), Check.STATE);
        c.due("no position", c.x.worth(59), Check.UNKNOWN);
        c.due("tally(2, 0)", c.x.tally(2, 0), Check.OUTSIDE);
        c.due("tally(-1, 0)", c.x.tally(-1, 0), Check.OUTSIDE);
        c.due("tally(0, 1000001)", c.x.tally(0, 1000001), Check.OUTSIDE);
        c.due("tally(0, -1000001)", c.x.tally(0, -1000001), Check.OUTSIDE);
    }

    /** Every position has one worth: the numbers of all worths add up to all positions. */
    private static void solvedAll() {
        Check c = new Check("solved all", "board 3 3; man r 0 1 ride 2; man w 0 1;");
        c.due("RRw: itself, Rw, RR, R, w, none", c.solve("RwR"), 6);
        for (int side = 0; side < 2; side++) c.due("like men count once", sum(c, side), 36 * 7);
        c.due("a side without men has lost", c.x.worth(c.position("3/1R1/3 w - - - 00 0")), 3000000);
        c.due("a side without men has lost", c.x.worth(c.position("3/1R1/3 b - - - 00 0")), 1000000);
        c.due("taking it", c.x.worth(c.position("w2/1R1/R2 w - - - 00 0")), 2999999);
        Check d = new Check("solved, becoming", "board 3 3; man p to fore 0 1; man q 1 1; man n 1 2; becomes p q n;");
        d.due("Pp, PQ .. none", d.solve("Pp"), 16);
        d.due("Pq, Qq, Nq, P, Q, N, q, none", d.solve("Pq"), 8);
        for (int side = 0; side < 2; side++) d.due("no pawn on its last rank", sum(d, side), 6 * 8);
    }

    /** How many positions have any worth of less than 60 moves, or none. */
    private static int sum(Check c, int side) {
        int sum = c.x.tally(side, 0);
        for (int n = 0; n < 60; n++) sum += c.x.tally(side, 1000000 - n) + c.x.tally(side, n - 1000000);
        return sum;
    }

    private static void solvedWith() {
        Check c = new Check("solved with stale won", "board 4 4; " + KINGS + "stale won;");
        c.due("KQk", c.solve("KQk"), 2);
        c.due("stalemate", c.x.worth(c.position("3k/1Q2/2K1/4 b - - - 00 0")), 3000000);
        Check d = new Check("solved with stale lost", "board 4 4; " + KINGS + "stale lost;");
        d.due("KQk", d.solve("KQk"), 2);
        d.due("stalemate", d.x.worth(d.position("3k/1Q2/2K1/4 b - - - 00 0")), 1000000);
        Check e = new Check("solved with hill", "board 4 4; " + KINGS + "hill a1;");
        e.due("Kk", e.solve("Kk"), 1);
        e.due("on it", e.x.worth(e.position("3k/4/4/K3 b - - - 00 0")), 1000000);
        e.due("beside it", e.x.worth(e.position("3k/4/4/1K2 w - - - 00 0")), 2999999);
        e.due("and the other one is far away", e.x.worth(e.position("3k/4/4/1K2 b - - - 00 0")), 1000002);
        Check f = new Check("solved with shy", "board 4 4; " + KINGS + "shy;");
        f.due("KRk", f.solve("KRk"), 2);
        f.due("a mate can't be given", f.x.tally(0, 999999), 0);
        f.due("but be there", f.x.tally(1, -1000000) > 0 ? 1 : 0, 1);
        Check g = new Check("solved with bare won and must", "board 3 3; man a 0 1; bare won; must;");
        g.due("Aa", g.solve("Aa"), 4);
        g.due("it must take", g.x.worth(g.position("3/1a1/1A1 w - - - 00 0")), 1000001);
        g.due("a side without men has won", g.x.worth(g.position("3/3/1A1 w - - - 00 0")), 1000000);
    }

    private static void faults() {
        Check c = new Check("faults of sets", "board 3 3; " + KINGS);
        String[] all = {"|", "K|", "|xk", "K|?", "KQ|K", "kQ|k", "KQQQQ|Q", "KQQQQ|K", "KkQ| ", "|1", "Kk|-"};
        for (String t : all) c.due("solve " + t, c.solve(t.replace("|", "")), -200 - t.indexOf('|'));
        c.due("kings", c.solve("Kk"), 1);
        c.due("a fault", c.solve("Kx"), -201);
        c.due("leaves what was solved", c.x.tally(0, 0) >= 0 ? 1 : 0, 1);
        c.due("two queens", c.solve("QQ"), 3);
    }

    private static void refused() {
        Check c = new Check("solve refused");
        c.due("catch", c.solve("Kk"), Check.STATE);
        c.due("ahead of a fault", c.solve("??"), Check.STATE);
        for (String more : new String[] {"hand;", "blast;", "checks 1;"}) {
            Check d = new Check("solve with " + more, "board 3 3; " + KINGS + more);
            d.due("solve", d.solve("Kk"), Check.STATE);
        }
        Check e = new Check("solve, too great", "board 8 8; " + KINGS + " man p fore 0 1; becomes p q;");
        e.due("kings", e.solve("Kk"), 1);
        e.due("kings alone", e.x.worth(e.position("k7/8/8/8/8/8/8/K7 w - - - 00 0")), 2000000);
        e.due("too great", e.solve("KPk"), Check.ROOM);
        e.due("what was solved is no more", e.x.tally(0, 0), Check.STATE);
        e.due("what was solved is no more", e.x.worth(0), Check.STATE);
        e.due("far too great", e.solve("KPPPk"), Check.ROOM);
    }
}
