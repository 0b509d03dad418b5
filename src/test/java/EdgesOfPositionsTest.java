/** Promises 7 to 13 and section 2 at their edges. */
public final class EdgesOfPositionsTest {
    private static final int LEAST = Integer.MIN_VALUE, MOST = Integer.MAX_VALUE;
    private static final String SMALL = "board 3 3;man a 0 1;man b 1 1;man c 1 2;";
    private static final String REST = " w - - - 00 0";

    public static void main(String[] args) {
        ranks();
        blanksAndSide();
        rights();
        pass();
        hands();
        checks();
        clock();
        rule2();
        rule3();
        rule4();
        rule5();
        rule5Rides();
        rule6();
        rules7And8();
        firstRule();
        places();
        drop();
        written();
        same();
        at();
        figure();
        attacked();
        Check.finish();
    }

    private static void faults(String rules, String ahead, String... texts) {
        for (String t : texts) new Check("position's FAULT", rules).positionFault(ahead + t);
    }

    private static void answer(String rules, String text, int want) {
        Check c = new Check("position", rules);
        c.due(rules + " " + text, c.position(text), want);
    }

    /** "in each, file by file, men's letters [..], or digits 1 .. 8 for so many empty squares, together just F" */
    private static void ranks() {
        faults(SMALL, "", "|", "3|", "3/|", "3/3/3|", "3/3/|", "3/3|", "|4/3/3", "|0/3/3", "|9/3/3", "1|3/3/3", "2|2/3/3", "a|3/3/3", "aa|2/3/3", "aaa|a/3/3", "aaa|1/3/3",
            "3|3/3", "2|/3/3", "aa|/3/3", "|/3/3", "3/|/3", "3/3/3|/3", "|d2/3/3", "|?2/3/3", "|-/3/3", "| 3/3/3", "3/3/2|" + REST, "3/3/3|\n");
        for (String t : new String[] {"3/3/3", "111/12/21", "aaa/bbb/ccc", "1a1/A1A/2C"}) answer(SMALL, t + REST, 0);
        String eight = "board 8 3;man a 0 1;";
        for (int n = 1; n <= 8; n++) answer(eight, n + "A".repeat(8 - n) + "/8/8" + REST, 0);
        faults(eight, "", "8|8/8", "1|8/8/8", "|9", "|0", "7a|a/8/8", "44|1/8/8");
        Check c = new Check("a full board", "board 8 8;man a 0 1;");
        c.due("full", c.position("AAAAAAAA/".repeat(4) + "aaaaaaaa/".repeat(3) + "aaaaaaaa" + REST), 0);
        c.due("men", c.x.figure(0, 8), 64);
        c.due("no man may go but by taking", c.x.moves(0), 8);
        Check d = new Check("an empty board", "board 8 8;man a 0 1;");
        d.due("empty", d.position("8/8/8/8/8/8/8/8" + REST), 0);
        d.due("men", d.x.figure(0, 8), 0);
    }

    /** "then, each behind one blank: w or b" */
    private static void blanksAndSide() {
        faults(SMALL, "3/3/3", "|", "|w", " | w", "|\nw", "|-", " |", " |W", " |B", " |x", " |-", " w|w", " w|", " w|-", " w |", " w | - - - 00 0",
            " w -|", " w - |", " w - | - - 00 0", " w - -|", " w - - |", " w - - | - 00 0", " w - - -|", " w - - - |", " w - - - | 00 0", " w - - - 00|", " w - - - 00 |",
            " w - - - 00 | 0", " w - - - 00 0| ", " w - - - 00 0|\n", " w - - - 00 0|-", " w -|\n", " w - -|x");
        answer(SMALL, "3/3/3 w - - - 00 0", 0);
        answer(SMALL, "3/3/3 b - - - 00 0", 0);
    }

    /** "RIGHTS: -, or squares, rising", "of a square that does not rise its letter" */
    private static void rights() {
        faults(SMALL, "3/3/3 w ", "|d1", "|A1", "|1", "a|", "a|0", "a|4", "a|a", "a|-", "a1|", "a1|-", "a1|d1", "a1b|4", "a1|a1", "b1|a1", "a2|c1", "c3|a1", "c3|c3", "a1b1|b1", "-|-",
            "-|a1", "a1b1c1a2b2c2a3b3c3|c3", "a1b1c1a2b2c2a3b3c3|a1");
        answer(SMALL, "3/3/3 w a1 - - 00 0", -4);
        answer(SMALL, "3/3/3 w a1b1c1a2b2c2a3b3c3 - - 00 0", -4);
        StringBuilder all = new StringBuilder();
        for (int s = 0; s < 64; s++) all.append((char) ('a' + s % 8)).append(1 + s / 8);
        answer(Check.CHESS, "8/8/8/8/8/8/8/8 w " + all + " - - 00 0", -4);
        faults(Check.CHESS, "8/8/8/8/8/8/8/8 w ", all + "|h8", all + "|a1", all + "|");
    }

    /** "PASS: -, or two squares or more, that of the man first" */
    private static void pass() {
        faults(SMALL, "3/3/3 w - ", "|d1", "a|4", "a1|", "a1| - 00 0", "a1|-", "a1|4", "a1a|4", "a1a|", "a1a2|", "a1a2|-", "a1a2|d", "-|a1");
        answer(SMALL, "3/3/3 w - a1a2 - 00 0", -5);
        answer(SMALL, "3/3/3 w - a1a1 - 00 0", -5);
        answer(SMALL, "3/3/3 w - " + "c3a1".repeat(40) + " - 00 0", -5);
    }

    /** "HANDS: -, or 1 to 32 letters as above (16 at most of one)" */
    private static void hands() {
        String a = "a".repeat(16), A = "A".repeat(16), b = "b".repeat(16);
        faults(SMALL, "3/3/3 w - - ", "|d", "|1", "| 00 0", "A|", "A|- 00 0", "A|1", "-|A", A + "|A", a + "|a", a + "A|a", a + A + "|b", a + b + "|A", a + A.substring(1) + "b|C", a + A + "|");
        answer(SMALL, "3/3/3 w - - A 00 0", -8);
        String hand = SMALL + "hand;";
        for (String h : new String[] {"-", "A", "c", A, a, A + a, "Ab".repeat(16), A + b}) answer(hand, "3/3/3 w - - " + h + " 00 0", 0);
        Check c = new Check("hands", hand);
        c.position("3/3/3 w - - " + A + b + " 00 0");
        c.due("WHITE's", c.x.figure(0, 6), 16);
        c.due("BLACK's", c.x.figure(0, 7), 16);
        c.position("3/3/3 w - - " + A + "B".repeat(16) + " 00 0");
        c.due("WHITE's", c.x.figure(1, 6), 32);
        c.due("BLACK's", c.x.figure(1, 7), 0);
    }

    /** "CHECKS: two digits, WHITE's first", 0 .. 9 */
    private static void checks() {
        faults(SMALL, "3/3/3 w - - - ", "|", "|-", "|a0", "| 0", "0|", "0| 0", "0|a", "0|-", "00|0 0", "00|", "00|-");
        Check c = new Check("checks", SMALL + "checks 9;");
        for (int n = 0; n <= 9; n++) {
            c.due("position", c.position("3/3/3 w - - - " + n + (9 - n) + " 0"), 0);
            c.due("WHITE's", c.x.figure(0, 2), n);
            c.due("BLACK's", c.x.figure(0, 3), 9 - n);
            c.x.drop(0);
        }
    }

    /** "CLOCK: 1 to 3 digits, 200 at most", "of a CLOCK whose first three digits, or fewer, are above 200 the first one" */
    private static void clock() {
        String ahead = "3/3/3 w - - - 00 ";
        faults(SMALL, ahead, "|", "|-", "|-1", "|x", "1|x", "19|x", "200|x", "|201", "|201x", "|299", "|300", "|999", "|2010", "|9999", "200|0", "200|1", "100|0", "020|0", "000|0", "000|1", "0|-", "5| ");
        String[] good = {"0", "00", "000", "1", "01", "001", "9", "99", "099", "100", "199", "200", "20", "30", "99"};
        for (String t : good) {
            Check c = new Check("the clock", SMALL);
            c.due("position " + t, c.position(ahead + t), 0);
            c.due("figure " + t, c.x.figure(0, 1), Integer.parseInt(t));
            c.due("written " + t, c.written(0), ahead + Integer.parseInt(t));
        }
    }

    /** "(2) each side has one ROYAL man at most, with blast just one (where RULES have one), none in HAND" */
    private static void rule2() {
        String r = "board 3 3;man k 1 2;man a 0 1;royal k;hand;";
        for (String t : new String[] {"3/3/3", "K2/3/3", "k2/3/3", "K2/3/1k1", "aAa/3/3"}) answer(r, t + REST, t.equals("K2/3/1k1") ? -6 : 0);
        answer(r, "KK1/3/3" + REST, -2);
        answer(r, "kk1/3/3" + REST, -2);
        answer(r, "KKK/KKK/KKK" + REST, -2);
        for (String h : new String[] {"K", "k", "AAK", "ak"}) answer(r, "3/3/3 w - - " + h + " 00 0", -2);
        String b = "board 3 3;man k 0 1;man a 0 1;royal k;blast;";
        answer(b, "k2/3/2K" + REST, 0);
        for (String t : new String[] {"3/3/3", "K2/3/3", "k2/3/3", "aA1/3/2K", "k1k/3/2K"}) answer(b, t + REST, -2);
        answer("board 3 3;man k 0 1;man a 0 1;blast;", "KKK/3/kkk" + REST, 0);
        answer("board 3 3;man k 0 1;man a 0 1;hand;", "3/3/3 w - - KKkk 00 0", 0);
    }

    /** "(3) no man that becomes others is on its last rank" */
    private static void rule3() {
        String r = "board 3 5;man p fore 0 1;man q 0 1;becomes p q;";
        for (int rank = 1; rank <= 5; rank++) {
            String[] rows = {"3", "3", "3", "3", "3"};
            for (String man : new String[] {"P", "p", "Q", "q"}) {
                rows[5 - rank] = "1" + man + "1";
                boolean last = man.equals("P") && rank == 5 || man.equals("p") && rank == 1;
                answer(r, String.join("/", rows) + REST, last ? -3 : 0);
                answer(r, String.join("/", rows) + " b - - - 00 0", last ? -3 : 0);
            }
        }
        answer("board 3 5;man p fore 0 1;man q 0 1;", "P2/3/3/3/p2" + REST, 0);
    }

    /** "(4) on each of RIGHTS stands a man M of castle, on the first rank of its side, whose ROYAL man stands there, too" */
    private static void rule4() {
        String r = "board 4 3;man k 0 1;man m 1 2;man a 1 1;royal k;castle m;";
        String[] good = {"4/4/K2M w d1", "4/4/M2K w a1", "4/4/KM2 w b1", "k2m/4/K2M w d1d3", "k2m/4/K2M b d1", "mk1m/4/4 w a3d3", "4/4/KM1M w b1d1"};
        for (String t : good) answer(r, t + " - - 00 0", 0);
        String[] wrong = {"4/4/K3 w d1", "4/4/K2A w d1", "4/4/K2m w d1", "4/3M/K3 w d2", "3M/4/K3 w d3", "4/K3/3M w d1", "K3/4/3M w d1", "4/4/3M w d1", "4/4/K2M w a1", "k3/4/K2M w d1d3", "k2m/4/4 w a3d3",
            "k3/4/3M w d1", "4/4/K1MM w b1c1d1"};
        for (String t : wrong) answer(r, t + " - - 00 0", -4);
        answer("board 4 3;man k 0 1;man m 1 2;royal k;", "4/4/K2M w d1 - - 00 0", -4);
        answer("board 4 3;man k 0 1;man m 1 2;", "4/4/K2M w d1 - - 00 0", -4);
    }

    /** "(5) PASS, if there is one: its man is of the side not to move, and one of its STEPS with pass [..]" */
    private static void rule5() {
        String r = "board 3 8;man l to fore pass 0 1 ride 3 from 2;man n to fore 0 1 ride 3;man a 0 1;";
        answer(r, "3/3/3/3/L2/3/3/3 b - a4a3 - 00 0", 0);
        answer(r, "3/3/3/L2/3/3/3/3 b - a5a3a4 - 00 0", 0);
        String[] wrong = {"3/3/3/3/L2/3/3/3 w - a4a3", "3/3/3/3/3/3/3/3 b - a4a3", "3/3/3/3/N2/3/3/3 b - a4a3", "3/3/3/3/L2/3/A2/3 b - a4a3", "3/3/3/3/L2/a2/3/3 b - a4a3", "3/3/3/L2/3/A2/3/3 b - a5a3a4",
            "3/3/3/3/L2/3/3/3 b - a4a2", "3/3/3/3/L2/3/3/3 b - a4b3", "3/3/3/3/L2/3/3/3 b - a4a5", "3/3/3/3/L2/3/3/3 b - a4a3a3", "3/3/3/3/L2/3/3/3 b - a4a2a3", "3/3/3/L2/3/3/3/3 b - a5a4a3",
            "3/3/3/L2/3/3/3/3 b - a5a4", "3/3/3/L2/3/3/3/3 b - a5a3", "3/3/L2/3/3/3/3/3 b - a6a3a4a5", "3/3/3/3/3/L2/3/3 b - a3a2", "3/3/3/3/L2/3/3/3 b - a3a4", "3/3/3/3/L2/3/3/3 b - a4a4",
            "3/3/3/3/l2/3/3/3 w - a4a3"};
        for (String t : wrong) answer(r, t + " - 00 0", -5);
        // BLACK counts ranks the other way round.
        answer(r, "3/3/3/l2/3/3/3/3 w - a5a6 - 00 0", 0);
        answer(r, "3/3/3/3/l2/3/3/3 w - a4a6a5 - 00 0", 0);
        answer(r, "3/3/3/3/l2/3/3/3 w - a4a5a6 - 00 0", -5);
        // "to and on do not" count: the man may have taken, or stand where only a taking leads.
        answer("board 3 5;man l on fore pass 0 1 ride 2;man a 0 1;", "3/3/L2/3/3 b - a3a2 - 00 0", 0);
        // "one of its STEPS": the second one will do.
        answer("board 3 5;man l to fore 0 1 ride 2,to fore pass 0 1 ride 2;", "3/3/L2/3/3 b - a3a2 - 00 0", 0);
        // The man that became another one has no such STEP: a text that is WRITTEN so is not RIGHT.
        answer("board 3 3;man p to fore pass 0 1 ride 2;man q 0 1;becomes p q;", "Q2/3/3 b - a3a2 - 00 0", -5);
    }

    /** A PASS as long as any STEP can be, and shorter ones; ride tells how long. */
    private static void rule5Rides() {
        String files = "abcdefgh";
        for (int ride = 2; ride <= 7; ride++) {
            String r = "board 8 3;man l pass 0 1 ride " + ride + ";";
            for (int k = 2; k <= 7; k++) {
                StringBuilder pass = new StringBuilder("h2");
                for (int i = 1; i < k; i++) pass.append(files.charAt(7 - k + i)).append(2);
                answer(r, "8/7l/8 w - " + pass + " - 00 0", k <= ride ? 0 : -5);
            }
            answer(r, "8/7l/8 w - h2a2b2c2d2e2f2g2 - 00 0", -5);
        }
        // Eight squares ahead of two that are right by themselves, and more of that kind.
        for (String square : new String[] {"a1", "c1", "g2"}) {
            for (int n = 1; n <= 9; n++) {
                answer("board 8 3;man l pass 0 1 ride 2;", "8/7l/8 w - " + square.repeat(n) + "h2g2 - 00 0", -5);
                answer("board 8 3;man l pass 0 1 ride 2;", "8/7l/8 w - h2g2" + square.repeat(n) + " - 00 0", -5);
            }
        }
        Check c = new Check("a long pass", "board 8 3;man l pass 0 1 ride 7;");
        c.position("8/7l/8 w - h2b2c2d2e2f2g2 - 00 0");
        c.due("written", c.written(0), "8/7l/8 w - h2b2c2d2e2f2g2 - 00 0");
        c.due("square", c.x.figure(0, 5), 15);
    }

    /** "(6) the ROYAL man of the side not to move is not ATTACKED" */
    private static void rule6() {
        String r = "board 3 3;man k 0 1;man a on 0 1;man t to 0 1;man b 0 1 ride 2;royal k;";
        answer(r, "kA1/3/3" + REST, -6);
        answer(r, "kA1/3/3 b - - - 00 0", 0);
        answer(r, "Ka1/3/3" + REST, 0);
        answer(r, "Ka1/3/3 b - - - 00 0", -6);
        answer(r, "Kk1/3/3" + REST, -6);
        answer(r, "Kk1/3/3 b - - - 00 0", -6);
        answer(r, "kT1/3/3" + REST, 0);
        answer(r, "k1B/3/3" + REST, -6);
        answer(r, "kaB/3/3" + REST, 0);
        answer(r, "kTB/3/3" + REST, 0);
        answer(r, "1A1/3/3" + REST, 0);
        // Without a ROYAL man told no man is one.
        answer("board 3 3;man k 0 1;", "Kk1/3/3" + REST, 0);
    }

    /** "(7) CHECKS are 0 without checks; (8) HANDS are empty without hand." */
    private static void rules7And8() {
        for (String n : new String[] {"10", "01", "99"}) {
            answer(SMALL, "3/3/3 w - - - " + n + " 0", -7);
            answer(SMALL + "checks 1;", "3/3/3 w - - - " + n + " 0", 0);
        }
        for (String h : new String[] {"A", "c", "abAB"}) {
            answer(SMALL, "3/3/3 w - - " + h + " 00 0", -8);
            answer(SMALL + "hand;", "3/3/3 w - - " + h + " 00 0", 0);
        }
    }

    /** "-2 to -8: the first rule by which it is not RIGHT" */
    private static void firstRule() {
        String r = "board 4 3;man k 0 1;man p fore 0 1;man m 0 1;royal k;becomes p m;castle m;";
        answer(r, "KKPk/4/4 w a1 a1a2 M 11 0", -2);
        answer(r, "1KPk/4/4 w a1 a1a2 M 11 0", -3);
        answer(r, "2Kk/4/4 w a1 a1a2 M 11 0", -4);
        answer(r, "2Kk/4/4 w - a1a2 M 11 0", -5);
        answer(r, "2Kk/4/4 w - - M 11 0", -6);
        answer(r, "1K1k/4/4 w - - M 11 0", -7);
        answer(r, "1K1k/4/4 w - - M 00 0", -8);
        answer(r, "1K1k/4/4 w - - - 00 0", 0);
        // A FAULT of the text is told ahead of all of them.
        faults(r, "", "KKPk/4/4 w a1 a1a2 M 11 |201", "KKPk/4/4 w a1 a1a2 M 11 0|x");
    }

    /** Promise 7: "its place, the least free one (0 .. 59)", "ROOM: no place is free (ahead of all; THE TAPE is used up)" */
    private static void places() {
        Check c = new Check("promise 7", SMALL);
        String t = "3/3/A1a" + REST;
        for (int i = 0; i < 60; i++) c.due("position", c.position(t), i);
        for (String any : new String[] {t, "", "3/3", "AAA/AAA/AAA w - - A 99 200"}) {
            c.due("no place is free", c.position(any), Check.ROOM);
            c.due("used up", c.x.told(7), 0);
        }
        c.due("all are there", c.x.told(5), 60);
        c.due("the last one", c.written(59), t);
        c.x.drop(59);
        c.due("a FAULT", c.position("3/3"), -203);
        c.due("takes no place", c.x.told(5), 59);
        c.due("not RIGHT", c.position("3/3/A1a w - - A 00 0"), -8);
        c.due("takes no place", c.x.told(5), 59);
        c.due("nor is it there", c.x.write(59), Check.UNKNOWN);
        c.due("the last place", c.position(t), 59);
        c.x.drop(30);
        c.x.drop(0);
        c.x.drop(45);
        c.due("the least one", c.position(t), 0);
        c.due("the least one", c.x.go(1, 0), 30);
        c.due("the least one", c.position(t), 45);
        c.due("none", c.x.go(1, 0), Check.ROOM);
    }

    /** Promise 8: "A position goes: 1. UNKNOWN." */
    private static void drop() {
        Check c = new Check("promise 8", SMALL);
        for (int p : new int[] {0, -1, 59, 60, LEAST, MOST}) c.due("drop(" + p + ")", c.x.drop(p), Check.UNKNOWN);
        c.position("3/3/A1a" + REST);
        c.x.start(0, 0);
        c.x.before(0);
        c.due("drop", c.x.drop(0), 1);
        c.due("again", c.x.drop(0), Check.UNKNOWN);
        c.due("positions", c.x.told(5), 0);
        c.due("it is no more", c.x.at(0, 0), Check.UNKNOWN);
        c.due("it is no more", c.x.same(0, 0) ? 1 : 0, 0);
        c.due("the game stays", c.x.game(0, 0), 0);
        c.due("what was found stays", c.x.beforeAt(0), 0);
    }

    /** Promise 9, and WRITTEN. */
    private static void written() {
        Check c = new Check("promise 9", SMALL + "hand;checks 9;");
        for (int p : new int[] {0, -1, 60, LEAST, MOST}) c.due("write(" + p + ")", c.x.write(p), Check.UNKNOWN);
        c.due("a refusal writes nothing", c.x.told(6), 0);
        String[][] both = {{"111/12/21 b - - cCbBaA 90 000", "3/3/3 b - - ABCabc 90 0"}, {"a1a/11a/a2 w - - aBAb 09 099", "a1a/2a/a2 w - - ABab 09 99"},
            {"3/3/3 w - - c 00 200", "3/3/3 w - - c 00 200"}};
        for (String[] pair : both) c.due("written", c.written(c.position(pair[0])), pair[1]);
        // HANDS of more letters than can be read: a man is taken behind 32.
        String many = "A".repeat(15) + "C".repeat(16) + "b";
        int p = c.position("3/3/Aa1 w - - " + many + " 00 0");
        int q = c.after(p, "Axb1");
        c.due("33 letters but the one taken", c.written(q), "3/3/1A1 b - - " + "A".repeat(16) + "C".repeat(16) + "b 00 0");
        c.due("they can't be read", c.position(c.written(q)), -200 - "3/3/1A1 b - - ".length() - 32);
        c.due("32 can", c.position("3/3/1A1 b - - " + "A".repeat(16) + "C".repeat(15) + "b 00 0") >= 0 ? 1 : 0, 1);
    }

    /** Promise 10: "Whether two positions are there, and SAME." */
    private static void same() {
        Check c = new Check("promise 10", "board 3 5;man p to fore pass 0 1 ride 2,on fore catch 1 1;man k 0 1;man r 0 1 ride 4;royal k;castle r;hand;checks 5;");
        for (int p : new int[] {0, -1, 60, LEAST, MOST}) c.due("same(" + p + ")", c.x.same(p, p) ? 1 : 0, 0);
        String[] t = {"k2/3/pP1/3/2K b - b3b2 - 00 0", "k2/3/pP1/3/2K b - - - 00 0", "k2/3/pP1/3/2K b - b3b2 - 00 99", "k2/2p/1P1/3/2K b - b3b2 - 00 0", "k2/2p/1P1/3/2K b - - - 00 1",
            "k2/2p/1P1/3/2K b - - p 00 0", "k2/2p/1P1/3/2K b - - P 00 0", "k2/2p/1P1/3/2K b - - - 10 0", "k2/2p/1P1/3/2K b - - - 01 0", "k2/2p/1P1/3/2K w - - - 00 0", "k2/2p/P2/3/2K b - - - 00 0"};
        // Same are 0 and 2 (PASS counts, the CLOCK does not), 3 and 4 (no man may take by catch).
        for (int i = 0; i < t.length; i++) c.due(t[i], c.position(t[i]), i);
        for (int i = 0; i < t.length; i++)
            for (int j = 0; j < t.length; j++) {
                boolean want = i == j || i + j == 2 && i != 1 || i + j == 7 && Math.abs(i - j) == 1;
                c.due("same(" + i + ", " + j + ")", c.x.same(i, j) ? 1 : 0, want ? 1 : 0);
            }
        c.due("one is not there", c.x.same(0, 11) ? 1 : 0, 0);
        c.due("one is not there", c.x.same(-1, 0) ? 1 : 0, 0);
        int p = c.position("3/3/3/3/R1K w a1 - - 00 0");
        int q = c.position("3/3/3/3/R1K w - - - 00 0");
        c.due("other RIGHTS", c.x.same(p, q) ? 1 : 0, 0);
        // A position that has ENDED has no LEGAL move that takes by catch.
        Check d = new Check("same, ended", "board 3 5;man p to fore pass 0 1 ride 2,on fore catch 1 1;man k 0 1;royal k;hill c1;");
        d.due("ended", d.x.ended(d.position(t[0])), 2);
        d.due("PASS does not count", d.x.same(0, d.position(t[1])) ? 1 : 0, 1);
    }

    /** Promise 11: "NONE: it is empty. OUTSIDE (square), UNKNOWN." */
    private static void at() {
        Check c = new Check("promise 11", "board 4 3;man a 0 1;man b 0 1;");
        c.position("3b/4/A3" + REST);
        int[] squares = {-1, 12, 63, 64, LEAST, MOST};
        for (int s : squares) {
            c.due("at(0, " + s + ")", c.x.at(0, s), Check.OUTSIDE);
            c.due("at(1, " + s + ")", c.x.at(1, s), Check.OUTSIDE);
        }
        for (int p : new int[] {1, -1, 60, LEAST, MOST}) c.due("at(" + p + ", 0)", c.x.at(p, 0), Check.UNKNOWN);
        c.due("the first square", c.x.at(0, 0), 0);
        c.due("the last one", c.x.at(0, 11), 3);
        for (int s = 1; s < 11; s++) c.due("an empty one", c.x.at(0, s), Check.NONE);
    }

    /** Promise 12: "what = 0 the SIDE, [..] 8 men on squares. OUTSIDE, UNKNOWN." */
    private static void figure() {
        Check c = new Check("promise 12", "board 4 3;man k 0 1;man m 1 2;man p to fore pass 0 1 ride 2;royal k;castle m;hand;checks 9;");
        c.position("k2m/4/4 b d3 - - 00 0");
        c.position("mk1m/2P1/M2K b a3d3 - MMMPmp 28 200");
        int[][] want = {{1, 0, 0, 0, 1, Check.NONE, 0, 0, 2}, {1, 200, 2, 8, 2, Check.NONE, 4, 2, 6}};
        for (int p = 0; p < 2; p++) for (int i = 0; i < 9; i++) c.due("figure(" + p + ", " + i + ")", c.x.figure(p, i), want[p][i]);
        for (int what : new int[] {-1, 9, LEAST, MOST}) {
            c.due("figure(0, " + what + ")", c.x.figure(0, what), Check.OUTSIDE);
            c.due("figure(7, " + what + ")", c.x.figure(7, what), Check.OUTSIDE);
        }
        for (int p : new int[] {2, -1, 60, LEAST, MOST}) c.due("figure(" + p + ", 0)", c.x.figure(p, 0), Check.UNKNOWN);
        int q = c.position("P3/4/4 b - a3a2 - 00 0");
        c.due("the square of PASS", c.x.figure(q, 5), 8);
        q = c.position("4/4/p3 w - a1a2 - 00 0");
        c.due("the square of PASS, 0", c.x.figure(q, 5), 0);
    }

    /** Promise 13: "OUTSIDE (square, side), UNKNOWN", and what ATTACKED asks for. */
    private static void attacked() {
        Check c = new Check("promise 13", "board 3 3;man a 0 1;");
        c.position("3/3/A2" + REST);
        for (int s : new int[] {-1, 9, LEAST, MOST}) {
            c.due("square " + s, c.x.attacked(0, s, 0), Check.OUTSIDE);
            c.due("square " + s, c.x.attacked(9, s, 0), Check.OUTSIDE);
        }
        for (int side : new int[] {-1, 2, LEAST, MOST}) {
            c.due("side " + side, c.x.attacked(0, 0, side), Check.OUTSIDE);
            c.due("side " + side, c.x.attacked(9, 0, side), Check.OUTSIDE);
        }
        for (int p : new int[] {1, -1, 60, LEAST, MOST}) c.due("position " + p, c.x.attacked(p, 0, 0), Check.UNKNOWN);
        int[] want = {0, 1, 0, 1, 0, 0, 0, 0, 0};
        for (int s = 0; s < 9; s++) {
            c.due("square " + s, c.x.attacked(0, s, 0), want[s]);
            c.due("by a side without men", c.x.attacked(0, s, 1), 0);
        }
        // "catch aside": a square that PASS was gone over is not ATTACKED by to, nor is the man of PASS.
        Check d = new Check("attacked, catch aside", "board 3 5;man p to fore pass 0 1 ride 2;man c to catch fore 1 1;");
        d.position("3/3/cP1/3/3 b - b3b2 - 00 0");
        d.due("by catch it may go there", d.texts(0), "Cxb2#");
        d.due("but the square is not attacked", d.x.attacked(0, 4, 1), 0);
        d.due("nor is the man", d.x.attacked(0, 7, 1), 0);
        // "what is BETWEEN as it is", "as if a man of the other side stood there"
        Check e = new Check("attacked along a line", "board 5 3;man r 0 1 ride 4;man o over 0 1 ride 4;man n on 1 2;");
        e.position("5/5/R1n2" + REST);
        int[] row = {0, 1, 1, 0, 0};
        for (int s = 0; s < 5; s++) e.due("square " + s, e.x.attacked(0, s, 0), row[s]);
        e.position("5/5/Onn2" + REST);
        row = new int[] {0, 0, 1, 0, 0};
        for (int s = 0; s < 5; s++) e.due("over one, square " + s, e.x.attacked(1, s, 0), row[s]);
        e.position("5/5/O1n2" + REST);
        row = new int[] {0, 0, 0, 1, 1};
        for (int s = 0; s < 5; s++) e.due("over one, square " + s, e.x.attacked(2, s, 0), row[s]);
        e.position("5/5/N4" + REST);
        e.due("an empty square by on", e.x.attacked(3, 7, 0), 1);
    }
}
