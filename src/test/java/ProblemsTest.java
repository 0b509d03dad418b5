/** Promises 36 to 38: PROBLEMS, their KEYS, and what refutes. */
public final class ProblemsTest {
    private static final int DIRECT = 0, SELF = 1, HELP = 2, SERIES = 3;
    private static final int MATE = 0, STALEMATE = 1, WON = 2;

    public static void main(String[] args) {
        direct();
        directGoals();
        self();
        help();
        series();
        seriesRules();
        refused();
        kept();
        Check.finish();
    }

    private static int problem(Check c, String position, int kind, int goal, int n) {
        return c.x.problem(c.position(position), kind, goal, n);
    }

    private static String keys(Check c, int p) {
        StringBuilder b = new StringBuilder();
        for (int k = 0; c.x.key(k) != Check.NONE; k++) b.append(k > 0 ? " " : "").append(c.said(p, c.x.key(k)));
        return b.toString();
    }

    private static void direct() {
        Check c = new Check("direct");
        int p = c.position("6k1/5ppp/8/8/8/8/5PPP/3R2K1 w - - - 00 0");
        c.due("in 1", c.x.problem(p, DIRECT, MATE, 1), 1);
        c.due("key", keys(c, p), "Rd8#");
        c.due("key(1)", c.x.key(1), Check.NONE);
        c.due("key(-1)", c.x.key(-1), Check.NONE);
        c.due("it refutes nothing", c.x.refutes(c.x.key(0)), 0);
        c.due("all replies refute in 1", c.x.refutes(c.hear(p, "Rd7")), 8);
        c.due("no such move", c.x.refutes(c.x.moves(p)), Check.NONE);
        c.due("no such move", c.x.refutes(-1), Check.NONE);
        int q = c.position("k7/8/2K5/8/8/8/8/6QR w - - - 00 0");
        c.due("in 1", c.x.problem(q, DIRECT, MATE, 1), 1);
        c.due("in 1", keys(c, q), "Rh8#");
        // The king goes first, the rook mates then.
        p = c.position("7k/8/5K2/8/8/8/8/R7 w - - - 00 0");
        c.due("in 1", c.x.problem(p, DIRECT, MATE, 1), 0);
        c.due("in 2", c.x.problem(p, DIRECT, MATE, 2), 2);
        c.due("keys", keys(c, p), "Kg6 Kf7");
        c.due("refutes of Kf7", c.x.refutes(c.hear(p, "Kf7")), 0);
        c.due("refutes of Ra2", c.x.refutes(c.hear(p, "Ra2")), 2);
        c.due("refutes of Rh1+", c.x.refutes(c.hear(p, "Rh1+")), 1);
    }

    private static void directGoals() {
        Check c = new Check("direct goals");
        int p = c.position("7k/8/6K1/8/8/8/8/5Q2 w - - - 00 0");
        c.due("mate", c.x.problem(p, DIRECT, MATE, 1), 1);
        c.due("mate", keys(c, p), "Qf8#");
        c.due("stalemate", c.x.problem(p, DIRECT, STALEMATE, 1), 2);
        c.due("stalemate", keys(c, p), "Qc4 Qf7");
        c.due("it leads to an end", c.x.refutes(c.hear(p, "Qf7")), 0);
        c.due("won is mate here", c.x.problem(p, DIRECT, WON, 1), 1);
        c.due("an end that is no goal has no refutes", c.x.refutes(c.hear(p, "Qf7")), 0);
        Check d = new Check("won with stale lost", Check.CHESS + "stale lost;");
        p = d.position("7k/8/6K1/8/8/8/8/5Q2 w - - - 00 0");
        d.due("won", d.x.problem(p, DIRECT, WON, 1), 3);
        d.due("mate", d.x.problem(p, DIRECT, MATE, 1), 1);
        Check e = new Check("won by the hill", Check.CHESS + "hill e5;");
        p = e.position("7k/8/8/8/8/3K4/8/8 w - - - 00 0");
        e.due("in 1", e.x.problem(p, DIRECT, WON, 1), 0);
        e.due("in 2", e.x.problem(p, DIRECT, WON, 2), 2);
        e.due("keys", keys(e, p), "Kd4 Ke4");
        e.due("no mate", e.x.problem(p, DIRECT, MATE, 2), 0);
    }

    private static void self() {
        Check c = new Check("self", Check.CHESS + "must;");
        // BLACK must take the rook, and mates by that.
        int p = c.position("1q6/8/8/8/8/2k5/7R/K7 w - - - 00 0");
        c.due("in 1", c.x.problem(p, SELF, MATE, 1), 1);
        c.due("key", keys(c, p), "Rb2");
        c.due("refutes", c.x.refutes(c.x.key(0)), 0);
        c.due("that is no direct mate", c.x.problem(p, DIRECT, MATE, 1), 0);
        Check e = new Check("self without must");
        p = e.position("1q6/8/8/8/8/2k5/7R/K7 w - - - 00 0");
        e.due("in 1", e.x.problem(p, SELF, MATE, 1), 0);
        e.due("all other replies refute", e.x.refutes(e.hear(p, "Rb2")), e.x.moves(e.after(p, "Rb2")) - 1);
        Check d = new Check("self, small", "board 3 3; man a fore 0 1; man b fore 0 1; bare lost;");
        p = d.position("1a1/3/B1A w - - - 00 0");
        d.due("ended", d.x.ended(p), 0);
        // Each side may go on, and none of them wins.
        d.due("won", d.x.problem(p, SELF, WON, 1), 0);
        d.due("refutes(0)", d.x.refutes(0), 1);
        p = d.position("a2/3/A2 w - - - 00 0");
        d.due("the reply takes the last man", d.x.problem(p, SELF, WON, 1), 1);
        d.due("key", keys(d, p), "Aa2");
        d.due("refutes(0)", d.x.refutes(0), 0);
        d.due("in two it is the same", d.x.problem(p, SELF, WON, 2), 1);
        p = d.position("a1b/3/A1B w - - - 00 0");
        d.due("only if all replies do", d.x.problem(p, SELF, WON, 1), 0);
        d.due("refutes(0)", d.x.refutes(0), 2);
        d.due("refutes(2)", d.x.refutes(2), Check.NONE);
    }

    private static void help() {
        Check c = new Check("help", "board 3 3; man a fore 0 1;");
        int p = c.position("2a/3/A2 w - - - 00 0");
        c.due("two moves", c.x.problem(p, HELP, STALEMATE, 1), 0);
        // Aa2 Ac2 Aa3 Ac1: WHITE has no move more.
        c.due("four moves", c.x.problem(p, HELP, STALEMATE, 2), 1);
        c.due("key", keys(c, p), "Aa2");
        c.due("no refutes of this kind", c.x.refutes(0), Check.NONE);
        c.due("six moves", c.x.problem(p, HELP, STALEMATE, 3), 0);
        Check d = new Check("help of chess");
        p = d.position("6k1/5ppp/8/8/8/8/5PPP/3R2K1 b - - - 00 0");
        // Behind any other move than Kh8 the king has a way out.
        d.due("rows", d.x.problem(p, HELP, MATE, 1), 1);
        d.due("keys", keys(d, p), "Kh8");
        p = d.position("7k/8/8/8/8/8/8/K6R b - - - 00 0");
        d.due("no rows", d.x.problem(p, HELP, MATE, 1), 0);
        d.due("no keys", d.x.key(0), Check.NONE);
    }

    private static void series() {
        Check c = new Check("series");
        int p = c.position("6k1/5ppp/8/8/8/8/5PPP/3R2K1 w - - - 00 0");
        c.due("in 1", c.x.problem(p, SERIES, MATE, 1), 1);
        c.due("in 2", c.x.problem(p, SERIES, MATE, 2), 18);
        c.due("no refutes of this kind", c.x.refutes(0), Check.NONE);
        Check d = new Check("series of steps", "board 3 4; man a fore 0 1, on fore 1 1;");
        p = d.position("3/1a1/3/A2 w - - - 00 0");
        int[] want = {0, 1, 0, 0};
        for (int n = 1; n <= 4; n++) d.due("won in " + n, d.x.problem(p, SERIES, WON, n), want[n - 1]);
        d.due("in 2", d.x.problem(p, SERIES, WON, 2), 1);
        d.due("key", keys(d, p), "Aa2");
    }

    private static void seriesRules() {
        // A check may be given by the last move alone: the queen may not go by way of a check.
        Check c = new Check("series rules");
        int p = c.position("k7/8/1K6/8/8/8/8/7R w - - - 00 0");
        c.due("in 1", c.x.problem(p, SERIES, MATE, 1), 1);
        int rows = 0;
        int n = c.x.moves(p);
        for (int i = 0; i < n; i++) {
            Check each = new Check("series rules, move " + i);
            int q = each.x.go(each.position("k7/8/1K6/8/8/8/8/7R w - - - 00 0"), i);
            if (each.x.ended(q) != 0 || each.x.attacked(q, 56, 0) != 0) continue;
            // The same men with WHITE to move once more.
            int again = each.position(each.written(q).replace(" b ", " w "));
            rows += each.x.problem(again, DIRECT, MATE, 1);
        }
        c.due("in 2", c.x.problem(p, SERIES, MATE, 2), rows);
        // WHITE's b may not catch WHITE's a, which went by; else nothing of WHITE's would be left to lose.
        Check d = new Check("no pass in a series", "board 3 4; man a to fore pass 0 1 ride 2; man b on fore catch -1 1; man c fore 0 1;"
            + " bare won; blast;");
        p = d.position("3/2c/3/AB1 w - - - 00 0");
        d.due("rows", d.x.problem(p, SERIES, WON, 2), 0);
    }

    private static void refused() {
        Check c = new Check("problem refused");
        int p = c.position(Check.START);
        int[][] wrong = {{-1, 0, 1}, {4, 0, 1}, {0, -1, 1}, {0, 3, 1}, {0, 0, 0}, {0, 0, 5}};
        for (int[] w : wrong) c.due("problem", c.x.problem(p, w[0], w[1], w[2]), Check.OUTSIDE);
        c.due("ahead of an unknown one", c.x.problem(9, 4, 0, 1), Check.OUTSIDE);
        c.due("no position", c.x.problem(9, 0, 0, 1), Check.UNKNOWN);
        c.due("ended", problem(c, "7k/5Q2/8/8/8/8/8/K7 b - - - 00 0", 0, 0, 1), Check.STATE);
        c.due("rows of 3", c.x.problem(p, DIRECT, MATE, 2), 0);
        c.due("rows of 5", c.x.problem(p, DIRECT, MATE, 3), Check.ROOM);
        c.due("rows of 2", c.x.problem(p, SELF, MATE, 1), 0);
        c.due("rows of 4", c.x.problem(p, SELF, MATE, 2), Check.ROOM);
        c.due("rows of 2", c.x.problem(p, HELP, MATE, 1), 0);
        c.due("rows of 4", c.x.problem(p, HELP, MATE, 2), Check.ROOM);
        c.due("rows of 3 of one side", c.x.problem(p, SERIES, MATE, 3), 0);
        c.due("rows of 4 of one side", c.x.problem(p, SERIES, MATE, 4), Check.ROOM);
    }

    private static void kept() {
        Check c = new Check("what is kept");
        int p = c.position("6k1/5ppp/8/8/8/8/5PPP/3R2K1 w - - - 00 0");
        int q = c.position("7k/8/6K1/8/8/8/8/5Q2 w - - - 00 0");
        c.due("in 1", c.x.problem(p, DIRECT, MATE, 1), 1);
        int key = c.x.key(0);
        c.due("a refusal", c.x.problem(p, DIRECT, MATE, 9), Check.OUTSIDE);
        c.due("a refusal", c.x.problem(c.position(Check.START), HELP, MATE, 3), Check.ROOM);
        c.due("rows() is none", c.x.rows(2, 2), 400);
        c.due("leaves the key", c.x.key(0), key);
        c.due("leaves refutes", c.x.refutes(0) > 0 ? 1 : 0, 1);
        c.due("another position goes", c.x.drop(q), 1);
        c.due("leaves the key", c.x.key(0), key);
        c.due("the position goes", c.x.drop(p), 1);
        c.due("key", c.x.key(0), Check.NONE);
        c.due("refutes", c.x.refutes(0), Check.NONE);
        c.due("another one in its place", c.position("6k1/5ppp/8/8/8/8/5PPP/3R2K1 w - - - 00 0"), p);
        c.due("key", c.x.key(0), Check.NONE);
        c.due("refutes", c.x.refutes(0), Check.NONE);
        c.x.problem(p, DIRECT, MATE, 1);
        c.x.problem(p, HELP, MATE, 1);
        c.due("another kind", c.x.refutes(0), Check.NONE);
        c.due("no rows", c.x.key(0), Check.NONE);
    }
}
