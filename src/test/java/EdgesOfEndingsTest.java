/** Promises 31 to 35, and sections 7 and 8, at their edges. */
public final class EdgesOfEndingsTest {
    private static final int LEAST = Integer.MIN_VALUE, MOST = Integer.MAX_VALUE;
    private static final int[] NO_PLACES = {1, -1, 59, 60, LEAST, MOST};
    private static final String KINGS = "board 3 3;man k 0 1;man r 0 1 ride 2;man q 0 1 ride 2,1 1 ride 2;royal k;";

    public static void main(String[] args) {
        beforeRefused();
        beforeNone();
        beforeMost();
        beforeOrder();
        beforeIsBare();
        beforeEnded();
        beforeAt();
        sets();
        setFaults();
        solveState();
        solveRoom();
        solveStays();
        largest();
        worth();
        worthOfBare();
        worths();
        tally();
        Check.finish();
    }

    private static String found(Check c, int p) {
        int n = c.x.before(p);
        StringBuilder b = new StringBuilder();
        for (int k = 0; k < n; k++) {
            int q = c.x.beforeAt(k);
            b.append(k > 0 ? " | " : "").append(c.written(q));
            c.x.drop(q);
        }
        return b.toString();
    }

    /** Promise 31: "UNKNOWN, STATE, ROOM", "Only without hand, blast, checks." */
    private static void beforeRefused() {
        Check c = new Check("promise 31", "board 3 3;man a fore 0 1;");
        c.position("2a/A2/3 b - - - 00 0");
        c.due("two", c.x.before(0), 2);
        for (int p : NO_PLACES) c.due("before(" + p + ")", c.x.before(p), Check.UNKNOWN);
        c.due("a refusal leaves what was found", c.x.beforeAt(1), 1);
        for (String more : new String[] {"hand;", "blast;", "checks 9;", "hand;blast;checks 1;"}) {
            Check d = new Check("before with " + more, "board 3 3;man a fore 0 1;" + more);
            d.due("UNKNOWN is told first", d.x.before(0), Check.UNKNOWN);
            d.position("2a/A2/3 b - - - 00 0");
            d.due("STATE", d.x.before(0), Check.STATE);
            d.due("nothing was found", d.x.beforeAt(0), Check.UNKNOWN);
        }
        for (String more : new String[] {"must;", "shy;", "stale won;", "bare won;", "hill c3;"}) {
            Check d = new Check("before with " + more, "board 3 3;man a fore 0 1;" + more);
            d.position("2a/A2/3 b - - - 00 0");
            d.due("it may be asked", d.x.before(0) > 0 ? 1 : 0, 1);
        }
    }

    /** None are BEFORE it: 0, and what was found before is no more. */
    private static void beforeNone() {
        Check c = new Check("none before", "board 3 3;man a fore 0 1;");
        int p = c.position("2a/A2/3 b - - - 00 0");
        int q = c.position("2a/3/A2 b - - - 00 0");
        c.due("some", c.x.before(p), 2);
        c.due("none", c.x.before(q), 0);
        c.due("none is found", c.x.beforeAt(0), Check.UNKNOWN);
        c.due("some again", c.x.before(p), 2);
        c.due("an empty board", c.x.before(c.position("3/3/3 w - - - 00 0")), 0);
        Check d = new Check("none before, attacked", "board 3 3;man k 0 1;man r 0 1 ride 2;royal k;");
        // The rook did not come along rank 3, nor did the king move: the other king would have been ATTACKED before.
        d.due("an attacked king", found(d, "k1R/3/1K1 b - - - 00 0"), "k1r/2R/1K1 w - - - 00 0 | k1r/3/1KR w - - - 00 0 | k2/2R/1K1 w - - - 00 0 | k2/3/1KR w - - - 00 0");
    }

    private static String found(Check c, String position) { return found(c, c.position(position)); }

    /** "ROOM: more than 3000 (what was found before is no more)" */
    private static void beforeMost() {
        // Ten men a may each have come from as many squares as make 250 together, having taken one of 11 men, or none.
        StringBuilder r = new StringBuilder("board 8 8;man a 1 2,0 2,0 3,1 3,2 2,2 3,3 3,1 1;");
        for (char m = 'b'; m < 'l'; m++) r.append("man ").append(m).append(" to fore 0 1;");
        Check c = new Check("the most before", r.toString());
        int most = c.position("7a/A1A3A1/1AA5/1AAA4/2AA4/8/8/8 b - - - 00 0");
        int more = c.position("7a/A1A3A1/1AA5/1AAA4/2AA4/8/7B/8 b - - - 00 0");
        c.due("just 3000", c.x.before(most), 3000);
        c.due("the first one", c.x.beforeAt(0), 2);
        c.due("the last one", c.x.beforeAt(2999), 3);
        c.due("none more", c.x.beforeAt(3000), Check.UNKNOWN);
        String[] edge = {c.written(2), c.written(3)};
        c.due("in order", edge[0].compareTo(edge[1]) < 0 ? 1 : 0, 1);
        c.due("3001 are too many", c.x.before(more), Check.ROOM);
        c.due("what was found is no more", c.x.beforeAt(0), Check.UNKNOWN);
        c.due("what was put in a place stays", c.written(2), edge[0]);
        c.due("3000 again", c.x.before(most), 3000);
        c.due("and found", c.x.beforeAt(2999), 4);
        c.due("the same one", c.written(4), edge[1]);
        Check d = new Check("the most before, in order", r.toString());
        d.x.before(d.position("7a/A1A3A1/1AA5/1AAA4/2AA4/8/8/8 b - - - 00 0"));
        String last = "";
        for (int k = 0; k < 3000; k += 375) {
            String t = d.written(d.x.beforeAt(k));
            d.due(last + " ahead of " + t, last.compareTo(t) < 0 ? 1 : 0, 1);
            last = t;
        }
    }

    /** "in order of their texts WRITTEN (by the first byte that differs)": capital letters, small ones, digits, for either side. */
    private static void beforeOrder() {
        String r = "board 4 4;man z 0 1 ride 3;man b 1 1 ride 3;man m 1 2;man p fore 0 1,on fore 1 1;becomes p z m;";
        String[] all = {"z3/1M2/2bP/Z3", "1z2/bZ1M/4/m2B", "4/zmb1/BMZ1/4", "ZZ2/4/4/2zz", "m1m1/4/4/Z1Mm"};
        for (String men : all) {
            for (String side : new String[] {" w", " b"}) {
                String last = "";
                int n = 2;
                for (int k = 0; k < n; k++) {
                    Check c = new Check("before, in order", r);
                    n = c.x.before(c.position(men + side + " - - - 00 0"));
                    String t = c.written(c.x.beforeAt(k));
                    c.due(last + " ahead of " + t, last.compareTo(t) < 0 ? 1 : 0, 1);
                    last = t;
                }
            }
        }
    }

    /** "A BARE position has no RIGHTS, PASS, HANDS; CHECKS and CLOCK are 0." */
    private static void beforeIsBare() {
        String r = "board 5 3;man k 0 1;man r 1 2;man p to fore pass 0 1 ride 2;royal k;castle r;";
        String all = found(new Check("before, bare", r), "4k/5/P1K1R b e1 - - 00 150");
        Check c = new Check("before, bare", r);
        c.due("some", all.isEmpty() ? 0 : 1, 1);
        for (String t : all.split(" \\| ")) c.due(t, t.substring(t.indexOf(' ')), " w - - - 00 0");
        String passed = found(c, "P3k/5/2K1R b - a3a2 - 00 3");
        c.due("PASS and CLOCK are not asked", passed.contains("4k/5/P1K1R w - - - 00 0") ? 1 : 0, 1);
        c.due("nor are they kept", passed, found(new Check("before, bare", r), "P3k/5/2K1R b - - - 00 77"));
    }

    /** "are RIGHT, have not ENDED by 1 to 4" */
    private static void beforeEnded() {
        Check c = new Check("before, ended", "board 3 3;man k 0 1;royal k;hill a1;");
        c.due("not from the hill", found(c, "2k/3/1K1 b - - - 00 0"), "2k/1K1/3 w - - - 00 0 | 2k/3/2K w - - - 00 0");
        c.due("but onto it", found(c, "2k/3/K2 b - - - 00 0"), "2k/3/1K1 w - - - 00 0 | 2k/K2/3 w - - - 00 0");
        Check d = new Check("before, no men", "board 3 3;man a fore 0 1;");
        d.due("the one taken was there", found(d, "3/A2/3 b - - - 00 0"), "3/a2/A2 w - - - 00 0");
        d.due("where none is left to move", found(d, "3/3/3 b - - - 00 0"), "");
        Check e = new Check("before, late men", "board 3 3;man p fore 0 1;man q 1 1;becomes p q;");
        // A man that becomes others stood not on its last rank: neither the one that moved, nor the one taken.
        e.due("taken on rank 1 is no p of BLACK", found(e, "2q/3/Q2 b - - - 00 0"), "2q/1Q1/3 w - - - 00 0 | 2q/1Q1/q2 w - - - 00 0");
        e.due("on rank 3 it is", found(e, "Q2/3/2q b - - - 00 0"), "3/1Q1/2q w - - - 00 0 | 3/P2/2q w - - - 00 0 | p2/1Q1/2q w - - - 00 0 | p2/P2/2q w - - - 00 0"
            + " | q2/1Q1/2q w - - - 00 0 | q2/P2/2q w - - - 00 0");
    }

    /** Promise 32: "its place, the least free one. UNKNOWN: none such, ROOM." */
    private static void beforeAt() {
        Check c = new Check("promise 32", "board 3 3;man a fore 0 1;");
        for (int k : new int[] {0, 1, -1, LEAST, MOST}) c.due("beforeAt(" + k + ")", c.x.beforeAt(k), Check.UNKNOWN);
        c.position("2a/A2/3 b - - - 00 0");
        c.x.before(0);
        for (int k : new int[] {2, 3, -1, 3000, LEAST, MOST}) c.due("beforeAt(" + k + ")", c.x.beforeAt(k), Check.UNKNOWN);
        c.x.drop(0);
        c.due("the least free place", c.x.beforeAt(1), 0);
        c.due("written", c.written(0), "2a/a2/A2 w - - - 00 0");
        for (int i = 1; i < 60; i++) c.due("beforeAt", c.x.beforeAt(0), i);
        c.due("full", c.x.beforeAt(0), Check.ROOM);
        c.due("UNKNOWN is told first", c.x.beforeAt(2), Check.UNKNOWN);
        c.x.drop(44);
        c.due("the least free place", c.x.beforeAt(0), 44);
    }

    /** "SETS that come of one: itself; without one man that is not ROYAL; with one man that becomes others [..]" */
    private static void sets() {
        String r = "board 3 3;man k 0 1;man a 0 1;man b 0 1;man p fore 0 1;man q 0 1;man s fore 0 1;royal k;becomes p a b;becomes s q;";
        String[][] all = {{"Kk", "1"}, {"kK", "1"}, {"KA", "2"}, {"AK", "2"}, {"AA", "3"}, {"Aa", "4"}, {"AB", "4"}, {"KAk", "2"}, {"AKk", "2"}, {"KAAk", "3"}, {"KAak", "4"}, {"KABk", "4"}, {"KPk", "4"},
            {"PK", "4"}, {"KSk", "3"}, {"KPpk", "16"}, {"KPSk", "12"}, {"AAAA", "5"}, {"AAAAA", "6"}, {"KAAAk", "4"}, {"KAAbk", "6"}};
        for (String[] one : all) {
            Check c = new Check("sets", r);
            c.due("solve " + one[0], c.solve(one[0]), Integer.parseInt(one[1]));
        }
        // Two p: of each of p, a, b, none may be left, and like men count once.
        Check c = new Check("sets", r);
        c.due("two that become two others", c.solve("KPPk"), 10);
    }

    /** Promise 33: "the first byte that is no man's letter, a second ROYAL man of a side, a 6th letter; the length, if it is 0 or 1" */
    private static void setFaults() {
        String[] all = {"|", "K|", "k|", "R|", "|x", "|xK", "K|x", "Kk|x", "KkRR|x", "KkRRR|x", "|1", "| Kk", "Kk| ", "Kk|\n", "K|-", "K|K", "k|k", "Kk|K", "Kk|k", "KkRR|K", "KkRRR|K", "KkRRR|R", "RRRRR|R",
            "RRRRR|RRRR", "K|Kx", "|?", "|\0", "|\u00ff", "KR|/"};
        for (String t : all) {
            Check c = new Check("faults of sets", KINGS);
            c.due("solve " + t, c.solve(t.replace("|", "")), -200 - t.indexOf('|'));
        }
        Check c = new Check("no men are told", "board 3 3;");
        c.due("no letter stands", c.solve("Kk"), -200);
        c.due("nothing", c.solve(""), -200);
        Check d = new Check("no ROYAL man is told", "board 3 3;man k 0 1;");
        d.due("two of a side may be", d.solve("KK"), 3);
        d.due("two of a side may be", d.solve("kkK"), 6);
    }

    /** "Only without hand, blast, checks, and STEPS with catch.", "STATE (ahead of that)" */
    private static void solveState() {
        for (String more : new String[] {"hand;", "blast;", "checks 1;", "man c to catch 0 1;", "man c 0 1, 1 1, 1 2, on catch fore 0 1;"}) {
            Check c = new Check("solve with " + more, KINGS + more);
            for (String t : new String[] {"Kk", "", "K", "xx", "KkRRRR"}) c.due("solve " + t, c.solve(t), Check.STATE);
            c.due("nothing is solved", c.x.tally(0, 0), Check.STATE);
        }
        for (String more : new String[] {"must;", "shy;", "stale lost;", "bare won;", "hill a1;", "man p pass fore 0 1 ride 2;", "castle r;"}) {
            Check c = new Check("solve with " + more, KINGS + more);
            c.due("solve", c.solve("Kk"), 1);
        }
        // The RULES before had STEPS with catch where these have none, as many men as can be.
        Check c = new Check("solve behind RULES with catch");
        StringBuilder twelve = new StringBuilder("board 3 3;");
        for (char m = 'a'; m < 'm'; m++) twelve.append("man ").append(m).append(" to fore 0 1,to fore 1 0;");
        c.due("rules", c.rules(twelve.toString()), 12);
        c.due("solve", c.solve("La"), 4);
    }

    /** "may have 600000 together", "ROOM: they are too great (what was solved before is no more, in that case alone)" */
    private static void solveRoom() {
        Check c = new Check("sets, nearly too great", "board 3 4;man a fore 0 1;man b fore 0 1;");
        c.due("591890", c.solve("ABABA"), 12);
        c.due("BLACK has no man", c.x.tally(1, -1000000), 220 * 36);
        c.due("WHITE has won", c.x.tally(0, 1000000), 220 * 36);
        Check d = new Check("sets, just too great", "board 5 7;man k 0 1;man p fore 0 1;man a 0 1;man b 0 1;man c 0 1;man d 0 1;man e 0 1;man f 0 1;royal k;becomes p a b c d e f;");
        d.due("kings", d.solve("Kk"), 1);
        d.due("602700", d.solve("KPk"), Check.ROOM);
        d.due("what was solved is no more", d.x.tally(0, 0), Check.STATE);
        d.due("87500", d.solve("KAk"), 2);
        Check e = new Check("sets, far too great", "board 8 8;man a 0 1;man b 0 1;man p fore 0 1;man q 0 1;man r 0 1;becomes p a b q r;");
        e.due("a small one", e.solve("Aa"), 4);
        for (String t : new String[] {"AAAAA", "aaaaa", "ABabq", "PPPPP", "PpPpP", "AAAA", "ABq"}) {
            int want = t.equals("ABq") ? 8 : Check.ROOM;
            e.due("solve " + t, e.solve(t), want);
            e.due("is it solved", e.x.tally(0, 0) >= 0 ? 1 : 0, want > 0 ? 1 : 0);
        }
        for (int f = 3; f <= 8; f++) {
            for (int k = 2; k <= 5; k++) {
                long s = f * f, size = 0;
                for (int i = 0; i <= k; i++) size += 2 * (long) Math.pow(s, i);
                // The greater ones are left to the tests above: they take long.
                if (size <= 600000 && size > 100000) continue;
                Check g = new Check("sets on " + f + " by " + f, "board " + f + " " + f + ";man a fore 0 1;");
                g.due(k + " men", g.solve("A".repeat(k)), size <= 600000 ? k + 1 : Check.ROOM);
            }
        }
    }

    /** What was solved goes with ROOM alone, and with what is solved next. */
    private static void solveStays() {
        Check c = new Check("what was solved stays", KINGS);
        int kings = c.position("k2/3/1K1 w - - - 00 0"), rook = c.position("k2/3/1KR w - - - 00 0"), queen = c.position("k2/3/KQ1 w - - - 00 0");
        c.due("solve", c.solve("KRk"), 2);
        for (String t : new String[] {"", "K", "KK", "Kkx", "KkRRRR"}) {
            c.due("a FAULT", c.solve(t) < 0 ? 1 : 0, 1);
            c.due("leaves the rook", c.x.worth(rook) > 0 ? 1 : 0, 1);
            c.due("leaves the tally", c.x.tally(0, 0) >= 0 ? 1 : 0, 1);
        }
        c.due("the queen is not solved", c.x.worth(queen), Check.STATE);
        c.due("the kings are", c.x.worth(kings), 2000000);
        c.due("another one", c.solve("KQk"), 2);
        c.due("the queen is solved", c.x.worth(queen) > 0 ? 1 : 0, 1);
        c.due("the rook is no more", c.x.worth(rook), Check.STATE);
        c.due("the kings are", c.x.worth(kings), 2000000);
        c.due("kings alone", c.solve("Kk"), 1);
        c.due("the queen is no more", c.x.worth(queen), Check.STATE);
        c.due("a FAULT of RULES", c.rules("board") < 0 ? 1 : 0, 1);
        c.due("leaves them", c.x.worth(kings), 2000000);
    }

    /** A SET of 2, and one of 5, of like men and of all different ones. */
    private static void largest() {
        Check c = new Check("a set of five", "board 3 3;man a to fore 0 1;man b to fore 0 1;man c to fore 0 1;");
        c.due("five like ones", c.solve("aaaaa"), 6);
        c.due("positions", c.x.tally(0, -1000000), 126);
        c.due("WHITE has none: it lost, or BLACK won", c.x.tally(1, 1000000), 126);
        c.due("worth", c.x.worth(c.position("aaa/a1a/3 w - - - 00 0")), 1000000);
        c.due("worth", c.x.worth(c.position("aaa/a1a/3 b - - - 00 0")), 3000000);
        c.due("five different ones", c.solve("ABabc"), 32);
        c.due("worth", c.x.worth(c.position("abc/3/1AB w - - - 00 0")), 2000000);
        c.due("worth of six", c.x.worth(c.position("abc/3/AAB w - - - 00 0")), Check.STATE);
        int all = 9 * 8 * 7 * 6 * 5, sum = 0;
        for (int n = 0; n < 20; n++) sum += c.x.tally(0, 1000000 - n) + c.x.tally(0, n - 1000000);
        c.due("all positions of WHITE", sum + c.x.tally(0, 0), all);
    }

    /** Promise 34: "UNKNOWN: no such position; STATE: its men are none of the SETS that are solved." */
    private static void worth() {
        Check c = new Check("promise 34", KINGS);
        c.due("UNKNOWN is told first", c.x.worth(0), Check.UNKNOWN);
        c.position("k2/3/1KR w - - - 00 0");
        c.due("nothing is solved", c.x.worth(0), Check.STATE);
        c.due("solve", c.solve("KRRk"), 3);
        for (int p : NO_PLACES) c.due("worth(" + p + ")", c.x.worth(p), Check.UNKNOWN);
        c.due("a SET that comes of it", c.x.worth(0) >= 1000000 ? 1 : 0, 1);
        String[] other = {"k2/3/1Kr w - - - 00 0", "k2/3/KQ1 w - - - 00 0", "k2/3/2R w - - - 00 0", "3/3/1KR w - - - 00 0", "3/3/3 w - - - 00 0", "2k/RRR/K2 b - - - 00 0", "2k/RRR/KRR b - - - 00 0",
            "krr/rrr/1K1 w - - - 00 0"};
        for (String t : other) {
            int p = c.position(t);
            c.due("position " + t, p > 0 ? 1 : 0, 1);
            c.due("worth " + t, c.x.worth(p), Check.STATE);
        }
    }

    /** "the WORTH of the BARE position with a position's men and SIDE" */
    private static void worthOfBare() {
        Check c = new Check("worth of the bare one", "board 4 3;man k 0 1;man r 0 1 ride 3;royal k;castle r;");
        c.due("solve", c.solve("KRk"), 2);
        int bare = c.x.worth(c.position("2k1/4/K2R w - - - 00 0"));
        c.due("with RIGHTS and a CLOCK", c.x.worth(c.position("2k1/4/K2R w d1 - - 00 200")), bare);
        c.due("the other SIDE is another one", c.x.worth(c.position("2k1/4/K2R b - - - 00 0")) == bare ? 1 : 0, 0);
    }

    /** "1000000 - n, if the side to move can force that it has won n moves (of both sides) later at the latest" */
    private static void worths() {
        // Men that go ahead until none can: who has no move more has lost.
        Check c = new Check("worths", "board 3 5;man a to fore 0 1;stale lost;");
        c.due("solve", c.solve("Aa"), 4);
        // WHITE has w moves left, BLACK b: WHITE to move wins if w is above b, 2 b + 1 moves later; else loses 2 w moves later.
        for (int w = 0; w <= 4; w++) {
            for (int b = 0; b <= 4; b++) {
                char[][] rows = {"111".toCharArray(), "111".toCharArray(), "111".toCharArray(), "111".toCharArray(), "111".toCharArray()};
                rows[w][0] = 'A';
                rows[4 - b][2] = 'a';
                StringBuilder t = new StringBuilder();
                for (char[] row : rows) t.append(t.length() > 0 ? "/" : "").append(row);
                int p = c.position(t + " w - - - 00 0");
                int want = w > b ? 1000000 - (2 * b + 1) : 2 * w - 1000000;
                c.due("WHITE " + w + ", BLACK " + b, c.x.worth(p), 2000000 + want);
                c.due("it has ended", c.x.ended(p) > 0 ? 1 : 0, want == -1000000 ? 1 : 0);
                c.x.drop(p);
            }
        }
        Check d = new Check("worths, drawn", "board 3 5;man a to fore 0 1;");
        d.due("solve", d.solve("Aa"), 4);
        d.due("drawn at its end", d.x.worth(d.position("A2/3/3/3/2a w - - - 00 0")), 2000000);
        d.due("drawn later", d.x.worth(d.position("2a/3/3/3/A2 w - - - 00 0")), 2000000);
    }

    /** Promise 35: "a WORTH (-1000000 .. 1000000). OUTSIDE; STATE: nothing is solved." */
    private static void tally() {
        Check c = new Check("promise 35", KINGS);
        for (int side : new int[] {-1, 2, LEAST, MOST}) c.due("OUTSIDE is told first", c.x.tally(side, 0), Check.OUTSIDE);
        for (int worth : new int[] {-1000001, 1000001, LEAST, MOST}) c.due("OUTSIDE is told first", c.x.tally(0, worth), Check.OUTSIDE);
        for (int worth : new int[] {-1000000, 0, 1000000}) c.due("nothing is solved", c.x.tally(1, worth), Check.STATE);
        c.due("solve", c.solve("kK"), 1);
        for (int side : new int[] {-1, 2, LEAST, MOST}) c.due("side " + side, c.x.tally(side, 0), Check.OUTSIDE);
        for (int worth : new int[] {-1000001, 1000001, LEAST, MOST}) c.due("worth " + worth, c.x.tally(0, worth), Check.OUTSIDE);
        for (int side = 0; side < 2; side++) {
            // 72 ways to stand, in 24 of which one king would be ATTACKED.
            c.due("all are drawn", c.x.tally(side, 0), 48);
            for (int worth : new int[] {-1000000, -999999, -1, 1, 999999, 1000000}) c.due("none", c.x.tally(side, worth), 0);
        }
        c.due("of the SET told alone", c.solve("KRk"), 2);
        int sum = c.x.tally(0, 0);
        for (int n = 0; n < 40; n++) sum += c.x.tally(0, 1000000 - n) + c.x.tally(0, n - 1000000);
        int right = 0;
        for (int k = 0; k < 9; k++) for (int q = 0; q < 9; q++) for (int r = 0; r < 9; r++) right += k == q || k == r || q == r || beside(k, q) || hits(r, q, k) ? 0 : 1;
        c.due("all RIGHT ones", sum, right);
    }

    private static boolean beside(int s, int t) { return Math.abs(s % 3 - t % 3) + Math.abs(s / 3 - t / 3) == 1; }

    /** Whether a rook on s hits t, with one man more on m. */
    private static boolean hits(int s, int t, int m) {
        if (s % 3 == t % 3) return !(m % 3 == s % 3 && m / 3 == 1 && s / 3 + t / 3 == 2);
        if (s / 3 == t / 3) return !(m / 3 == s / 3 && m % 3 == 1 && s % 3 + t % 3 == 2);
        return false;
    }
}
