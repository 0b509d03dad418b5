import java.util.Random;
import java.util.TreeSet;

/** Promises 14 to 19 and section 3 at their edges. */
public final class EdgesOfMovesTest {
    private static final int LEAST = Integer.MIN_VALUE, MOST = Integer.MAX_VALUE;

    public static void main(String[] args) {
        noWayRoundTheEdges();
        rides();
        between();
        fromRanks();
        toAndOn();
        catches();
        catchOrNot();
        becoming();
        castlingFiles();
        castlingAttacked();
        castlingLaysOpen();
        drops();
        hands();
        blastAround();
        blastFirm();
        blastLegal();
        rightsGo();
        passes();
        clocks();
        checks();
        legal();
        shyAndMust();
        ended();
        endedFirst();
        moves();
        move();
        go();
        rows();
        endedAndResult();
        Check.finish();
    }

    private static String texts(String rules, String position) {
        Check c = new Check("texts", rules);
        int p = c.position(position);
        if (p < 0) c.due(rules + " " + position, p, 0);
        return c.texts(p);
    }

    private static void texts(String about, String rules, String position, String want) {
        new Check(about).due(rules + " " + position, texts(rules, position), want);
    }

    private static void written(String about, String rules, String position, String move, String want) {
        Check c = new Check(about, rules);
        c.due(position + " " + move, c.written(c.after(c.position(position), move)), want);
    }

    /** "t is on the board": no STEP leads over an edge, and comes in at the other one. */
    private static void noWayRoundTheEdges() {
        Random r = new Random(1);
        for (int i = 0; i < 1500; i++) {
            int files = 3 + r.nextInt(6), ranks = 3 + r.nextInt(6), squares = files * ranks;
            int a = r.nextInt(15) - 7, b = r.nextInt(15) - 7, ride = 1 + r.nextInt(7);
            if (a == 0 && b == 0) continue;
            boolean fore = r.nextBoolean(), white = r.nextBoolean();
            int s = r.nextInt(squares), other = r.nextInt(squares);
            if (s == other) continue;
            String step = (fore ? "fore " : "") + a + " " + b + (ride > 1 ? " ride " + ride : "");
            Check c = new Check("no way round", "board " + files + " " + ranks + ";man a " + step + ";");
            char[] board = new char[squares];
            java.util.Arrays.fill(board, '1');
            board[s] = white ? 'A' : 'a';
            board[other] = white ? 'a' : 'A';
            StringBuilder t = new StringBuilder();
            for (int rank = ranks - 1; rank >= 0; rank--) t.append(rank < ranks - 1 ? "/" : "").append(board, rank * files, files);
            int p = c.position(t + (white ? " w" : " b") + " - - - 00 0");
            TreeSet<Integer> want = new TreeSet<>();
            for (int v = 0; v < (fore ? 1 : 8); v++) {
                int across = (v & 4) == 0 ? a : b, along = (v & 4) == 0 ? b : a;
                across = (v & 1) == 0 ? across : -across;
                along = (v & 2) == 0 ? along : -along;
                if (fore && !white) along = -along;
                int f = s % files, rank = s / files;
                for (int k = 1; k <= ride; k++) {
                    f += across;
                    rank += along;
                    if (f < 0 || f >= files || rank < 0 || rank >= ranks) break;
                    want.add(rank * files + f);
                    if (rank * files + f == other) break;
                }
            }
            TreeSet<Integer> got = new TreeSet<>();
            for (int m = 0; m < c.x.moves(p); m++) got.add(c.x.move(p, m, 1));
            c.due(step + " on " + t, got.toString(), want.toString());
        }
    }

    /** "gone along k times, 1 up to the n of ride (1 without)" */
    private static void rides() {
        for (int n = 1; n <= 7; n++) {
            Check c = new Check("ride", "board 8 8;man a 0 1" + (n > 1 ? " ride " + n : "") + ";man d 1 1" + (n > 1 ? " ride " + n : "") + ";");
            c.due("along a rank and a file", c.x.moves(c.position("7a/8/8/8/8/8/8/A7 w - - - 00 0")), 2 * n);
            c.due("along a diagonal", c.x.moves(c.position("a7/8/8/8/8/8/8/D7 w - - - 00 0")), n);
        }
    }

    /** "BETWEEN are the squares come to before t: all on the board and empty, with over all but one" */
    private static void between() {
        String r = "board 7 3;man r 0 1 ride 6;man o over 0 1 ride 6;man j 0 3 ride 2;man z over 0 1;man i to fore 0 2;";
        texts("an own man between", r, "7/6i/R1I4 w - - - 00 0", "Rb1 Ra2 Ra3 Ic3");
        texts("another's man between", r, "7/7/R1i4 w - - - 00 0", "Rb1 Rxc1# Ra2 Ra3");
        texts("over none", r, "7/7/O5i w - - - 00 0", "");
        texts("over one", r, "7/7/O1i3i w - - - 00 0", "Od1 Oe1 Of1 Oxg1");
        texts("over an own one", r, "6i/7/O1I4 w - - - 00 0", "Od1 Oe1 Of1 Og1 Ic3");
        texts("over one, onto none of its own", r, "6i/7/O1II3 w - - - 00 0", "Ic3 Id3");
        texts("over two", r, "7/7/O1ii3 w - - - 00 0", "Oxd1");
        texts("a leap asks for nothing", r, "7/7/Jii4 w - - - 00 0", "Jd1 Jg1");
        texts("two leaps ask for the square between", r, "7/7/Jiii3 w - - - 00 0", "Jxd1");
        texts("over, without ride, leads nowhere", r, "7/7/Zi5 w - - - 00 0", "");
    }

    /** "With from, s is on that rank of its side." */
    private static void fromRanks() {
        for (int from = 1; from <= 5; from++) {
            Check c = new Check("from " + from, "board 3 5;man a to 1 0 from " + from + ";man i to fore 2 2 from 5;");
            for (int rank = 1; rank <= 5; rank++) {
                String[] rows = {"3", "3", "3", "3", "3"};
                rows[5 - rank] = "A1i";
                int p = c.position(String.join("/", rows) + " w - - - 00 0");
                c.due("WHITE on " + rank, c.x.moves(p) > 0 ? 1 : 0, rank == from ? 1 : 0);
                rows[5 - rank] = "a1I";
                int q = c.position(String.join("/", rows) + " b - - - 00 0");
                c.due("BLACK on " + rank, c.x.moves(q) > 0 ? 1 : 0, 6 - rank == from ? 1 : 0);
                c.due("only from there it attacks", c.x.attacked(p, rank * 3 - 2, 0), 0);
            }
        }
    }

    /** "with to empty, with on one of the other side's men stands there, else either" */
    private static void toAndOn() {
        String r = "board 3 3;man t to 1 0 from 1;man o on 1 0 from 1;man e 1 0 from 1;man i to fore 2 2 from 2;";
        for (String man : new String[] {"T", "O", "E"}) {
            boolean to = man.equals("T"), on = man.equals("O");
            texts("an empty square", r, "2i/I1I/1" + man + "1 w - - - 00 0", on ? "" : man + "a1 " + man + "c1 " + man + "b2");
            texts("the other side's men", r, "2i/IiI/i" + man + "i w - - - 00 0", to ? "" : man + "xa1 " + man + "xc1 " + man + "xb2");
            texts("its own men", r, "2i/III/I" + man + "I w - - - 00 0", "");
        }
    }

    /** "With catch t may be, whatever to and on say, a square that PASS was gone over" */
    private static void catches() {
        // The man l went over six squares; c may come to each of them by catch, from the rank above.
        for (String words : new String[] {"to ", "on ", ""}) {
            String r = "board 8 3;man l pass 0 1 ride 7;man c " + words + "fore catch 0 -1;";
            for (int f = 0; f < 8; f++) {
                char[] row = "11111111".toCharArray();
                row[f] = 'C';
                Check c = new Check("catch", r);
                int p = c.position(new String(row) + "/7l/8 w - h2b2c2d2e2f2g2 - 00 0");
                boolean over = f > 0 && f < 7;
                boolean plain = f == 0 ? !words.equals("on ") : f == 7 && !words.equals("to ");
                c.due(words + f, c.x.moves(p), over || plain ? 1 : 0);
                if (!over) continue;
                c.due("by catch", c.x.move(p, 0, 5), 1);
                c.due("taken", c.x.move(p, 0, 4), 0);
                c.due("the man of PASS goes, and no other", c.x.figure(c.x.go(p, 0), 8), 1);
            }
        }
        // Without catch, and where PASS is none, the square is as any other.
        String r = "board 8 3;man l pass 0 1 ride 7;man c on fore catch 0 -1;man d on fore 0 -1;";
        texts("without catch", r, "3D4/7l/8 w - h2b2c2d2e2f2g2 - 00 0", "");
        texts("no PASS", r, "3C4/7l/8 w - - - 00 0", "");
        texts("a square that was not gone over", r, "3C4/7l/8 w - h2f2g2 - 00 0", "");
    }

    /** "Of several STEPS that lead from s to t the first one told counts." */
    private static void catchOrNot() {
        String pass = "board 3 5;man p to fore pass 0 1 ride 2;man i to fore 2 4;";
        String position = "2i/3/1Pc/3/3 b - b3b2 - 00 0";
        texts("the first one has no catch", pass + "man c to fore -1 1,to fore catch -1 1;", position, "Cb2");
        texts("the first one has catch", pass + "man c to fore catch -1 1,to fore -1 1;", position, "Cxb2#");
        texts("the first one does not lead there", pass + "man c on fore -1 1,to fore catch -1 1;", position, "Cxb2#");
        Check c = new Check("the first one has no pass", "board 3 5;man p to fore 0 1 ride 2,to fore pass 0 1 ride 3;");
        int p = c.position("2p/3/3/3/P2 w - - - 00 0");
        c.due("of two", c.written(c.after(p, "Pa3")), "2p/3/P2/3/3 b - - - 00 1");
        c.due("the second one alone leads on", c.written(c.after(p, "Pa4")), "2p/P2/3/3/3 b - a4a2a3 - 00 1");
    }

    /** "A man that becomes others, on its last rank, is one of these then: a move for each." */
    private static void becoming() {
        StringBuilder r = new StringBuilder("board 3 4;man p 0 1;");
        for (char m = 'a'; m <= 'f'; m++) r.append("man ").append(m).append(" 1 1;");
        String six = r + "becomes p f e d c b a;";
        texts("six", six, "2a/1P1/3/3 w - - - 00 0", "b2 a3 c3 b4=F b4=E b4=D b4=C b4=B b4=A");
        texts("not on the rank ahead of it", six, "2a/3/1P1/3 w - - - 00 0", "b1 a2 c2 b3");
        texts("not on its first rank", six, "2a/3/P2/3 w - - - 00 0", "a1 b2 a3");
        texts("BLACK's last rank is 1", six, "3/3/1p1/2A b - - - 00 0", "b1=F b1=E b1=D b1=C b1=B b1=A a2 c2 b3");
        texts("BLACK on WHITE's last rank", six, "3/p2/3/2A b - - - 00 0", "a2 b3 a4");
        written("BLACK's is BLACK's", six, "3/3/1p1/2A b - - - 00 3", "b1=D", "3/3/3/1dA w - - - 00 0");
        written("WHITE's is WHITE's", six, "2a/1P1/3/3 w - - - 00 3", "b4=A", "1Aa/3/3/3 b - - - 00 0");
        written("by a taking", six, "3/3/1p1/1A1 b - - - 00 3", "bxb1=A", "3/3/3/1a1 w - - - 00 0");
        texts("one", r + "becomes p c;", "a2/P2/3/3 w - - - 00 0", "a2 b3 axa4=C#");
        texts("none", r.toString(), "a2/P2/3/3 w - - - 00 0", "Pa2 Pb3 Pxa4#");
    }

    /** "the ROYAL man, 3 or more files away, all squares between empty, goes two files towards it" */
    private static void castlingFiles() {
        for (int files = 3; files <= 8; files++) {
            for (int k = 0; k < files; k++) {
                Check c = new Check("castling on " + files + " files", "board " + files + " 3;man k 0 1;man r 1 2;man i to fore 2 2;royal k;castle r;");
                for (int m = 0; m < files; m++) {
                    if (m == k) continue;
                    char[] row = "1".repeat(files).toCharArray();
                    row[k] = 'K';
                    row[m] = 'R';
                    String top = "i".repeat(files);
                    String square = "" + (char) ('a' + m) + 1;
                    int p = c.position(top + "/" + files + "/" + new String(row) + " w " + square + " - - 00 0");
                    boolean far = Math.abs(k - m) >= 3;
                    c.due("king " + k + ", rook " + m + ", greater", c.hear(p, "O-O") >= 0 ? 1 : 0, far && m > k ? 1 : 0);
                    c.due("king " + k + ", rook " + m + ", less", c.hear(p, "O-O-O") >= 0 ? 1 : 0, far && m < k ? 1 : 0);
                    if (far) {
                        int q = c.after(p, m > k ? "O-O" : "O-O-O");
                        int d = m > k ? 1 : -1;
                        c.due("the king", c.x.at(q, k + 2 * d), 0);
                        c.due("the rook", c.x.at(q, k + d), 2);
                        c.due("nothing more", c.x.figure(q, 8), files + 2);
                        c.x.drop(q);
                    }
                    c.x.drop(p);
                }
            }
        }
        String r = "board 8 3;man k 0 1;man r 1 2;man i to fore 2 2;royal k;castle r;";
        for (int f = 2; f <= 6; f++) {
            char[] row = "1K11111R".toCharArray();
            row[f] = 'I';
            Check c = new Check("a man between", r);
            c.due("on " + f, c.hear(c.position("iii5/8/" + new String(row) + " w h1 - - 00 0"), "O-O"), Check.NONE);
            row[f] = 'i';
            c.due("another's on " + f, c.hear(c.position("iii5/8/" + new String(row) + " w h1 - - 00 0"), "O-O"), Check.NONE);
        }
    }

    /** "that square, the one left and the one come to must not be ATTACKED by the other side, as men stand before" */
    private static void castlingAttacked() {
        for (int f = 0; f < 8; f++) {
            char[] row = "11111111".toCharArray();
            row[f] = 'a';
            Check c = new Check("castling, " + f + " attacked", "board 8 3;man k 0 1;man r 0 1 ride 7;man a on fore 0 2;royal k;castle r;");
            int p = c.position(new String(row) + "/8/R3K2R w a1h1 - - 00 0");
            c.due("O-O", c.hear(p, "O-O") >= 0 ? 1 : 0, f < 4 || f > 6 ? 1 : 0);
            c.due("O-O-O", c.hear(p, "O-O-O") >= 0 ? 1 : 0, f < 2 || f > 4 ? 1 : 0);
        }
        Check c = new Check("castling, as men stand before", "board 8 3;man k 0 1;man r 0 1 ride 7;man q on 0 1 ride 7;man o on over 0 1 ride 7;royal k;castle r;");
        int p = c.position("8/8/q2RK2R w h1 - - 00 0");
        c.due("a man shuts the line", c.hear(p, "O-O") >= 0 ? 1 : 0, 1);
        p = c.position("8/8/o3K2R w h1 - - 00 0");
        c.due("over the king, which is to leave, the others are attacked", c.hear(p, "O-O"), Check.NONE);
    }

    /** CASTLING is a move as any other: behind it the own ROYAL man is not ATTACKED. */
    private static void castlingLaysOpen() {
        Check c = new Check("castling lays open", "board 8 3;man k 0 1;man r 1 2;man q on 0 1 ride 7;royal k;castle r;");
        int p = c.position("8/8/3K2Rq w g1 - - 00 0");
        for (int s = 3; s <= 5; s++) c.due("not attacked before", c.x.attacked(p, s, 1), 0);
        c.due("the rook shut the line, the king stands ahead of it then", c.hear(p, "O-O"), Check.NONE);
        p = c.position("8/8/K2R3q w d1 - - 00 0");
        c.due("with more squares between", c.hear(p, "O-O"), Check.NONE);
        p = c.position("7q/8/K2R4 w d1 - - 00 0");
        c.due("elsewhere it does not", c.hear(p, "O-O") >= 0 ? 1 : 0, 1);
    }

    /** "DROP, with hand: a man of the HAND comes to an empty square; those that become others not to the first or last rank." */
    private static void drops() {
        String r = "board 3 4;man p fore 0 1;man q to fore 2 3;becomes p q;hand;";
        texts("not to the first or last rank", r, "2q/3/3/3 w - - P 00 0", "P@a2 P@b2 P@c2 P@a3 P@b3 P@c3");
        texts("BLACK likewise", r, "2Q/3/3/3 b - - p 00 0", "P@a2 P@b2 P@c2 P@a3 P@b3 P@c3");
        texts("others to all", r, "2q/3/3/3 w - - Q 00 0", "Q@a1 Q@b1 Q@c1 Q@a2 Q@b2 Q@c2 Q@a3 Q@b3 Q@c3 Q@a4 Q@b4");
        texts("no empty square", r, "qqq/qqq/qqq/qqq w - - QP 00 0", "");
        texts("no empty square but on the first rank", r, "qqq/qqq/qqq/qq1 w - - P 00 0", "");
        texts("without hand there are none", "board 3 3;man q 0 1;", "2q/3/Q2 w - - - 00 0", "Qb1 Qa2");
        written("the last one of the hand", r, "2q/3/3/3 w - - Q 00 7", "Q@a1", "2q/3/3/Q2 b - - - 00 0");
        written("one of sixteen", r, "2q/3/3/3 w - - " + "Q".repeat(16) + " 00 7", "Q@a1", "2q/3/3/Q2 b - - " + "Q".repeat(15) + " 00 0");
        written("a man that was dropped on the rank ahead becomes later", r, "3/P2/3/2q w - - - 00 7", "a4=Q", "Q2/3/3/2q b - - - 00 0");
    }

    /** "with hand into the HAND of the side that moved (a ROYAL man, or where that has 16: nowhere)" */
    private static void hands() {
        String r = "board 3 3;man k to 1 2,on 0 1;man a 0 1;man b 0 1;royal k;hand;";
        for (int n = 0; n <= 16; n++) {
            String hand = n == 0 ? "-" : "A".repeat(n);
            written(n + " of them", r, "3/3/Aa1 w - - " + hand + " 00 0", "Axb1", "3/3/1A1 b - - " + "A".repeat(Math.min(n + 1, 16)) + " 00 0");
        }
        written("of the other side 16", r, "3/3/Aa1 w - - " + "a".repeat(16) + " 00 0", "Axb1", "3/3/1A1 b - - A" + "a".repeat(16) + " 00 0");
        written("of another man 16", r, "3/3/Aa1 w - - " + "B".repeat(16) + " 00 0", "Axb1", "3/3/1A1 b - - A" + "B".repeat(16) + " 00 0");
        String c = "board 3 5;man k to fore pass 0 1 ride 2;man c to catch fore 1 1;royal k;hand;";
        written("a ROYAL man goes nowhere", c, "k2/3/cK1/3/3 b - b3b2 - 00 9", "Cxb2", "k2/3/3/1c1/3 w - - - 00 0");
    }

    /** "all men, of both sides, that are not FIRM on the up to eight squares around t" */
    private static void blastAround() {
        for (int t = 0; t < 16; t++) {
            for (int s = 0; s < 16; s++) {
                int df = Math.abs(s % 4 - t % 4), dr = Math.abs(s / 4 - t / 4);
                if (df + dr != 1) continue;
                Check c = new Check("blast from " + s + " on " + t, "board 4 4;man a on 0 1;man i to fore 3 3;blast;");
                char[] men = new char[16], left = new char[16];
                for (int i = 0; i < 16; i++) {
                    boolean near = Math.max(Math.abs(i % 4 - t % 4), Math.abs(i / 4 - t / 4)) <= 1;
                    men[i] = i == s ? 'A' : i == t ? 'i' : i % 2 == 0 ? 'i' : 'I';
                    left[i] = near ? '1' : men[i];
                }
                int p = c.position(board(men) + " w - - - 00 5");
                int q = c.x.go(p, moveTo(c, p, t));
                c.x.write(q);
                c.due("left", c.out(), packed(board(left)) + " b - - - 00 0");
            }
        }
    }

    private static int moveTo(Check c, int p, int t) {
        for (int i = 0; i < c.x.moves(p); i++) if (c.x.move(p, i, 1) == t) return i;
        return -1;
    }

    private static String board(char[] men) {
        StringBuilder b = new StringBuilder();
        for (int r = 3; r >= 0; r--) b.append(new String(men, 4 * r, 4)).append(r > 0 ? "/" : "");
        return b.toString();
    }

    private static String packed(String ranks) {
        return ranks.replace("1111", "4").replace("111", "3").replace("11", "2");
    }

    /** "the man that took goes away, too (FIRM or not; what it becomes is not asked: that is one move)" */
    private static void blastFirm() {
        String r = "board 5 4;man a 0 1;man f 0 1;man p fore 0 1,on fore 1 1;man q 0 1;becomes p q;blast f;hand;";
        written("a FIRM man that takes goes", r, "5/1aa2/fFaf1/A4 w - - - 00 3", "Fxc2", "5/5/f2f1/A4 b - - A 00 0");
        written("a FIRM man that is taken goes, and comes into the hand", r, "5/5/Af3/4a w - - - 00 3", "Axb2", "5/5/5/4a b - - F 00 0");
        written("FIRM men around stay", r, "5/fFf2/Aaf2/fFf2 w - - - 00 3", "Axb2", "5/fFf2/2f2/fFf2 b - - A 00 0");
        texts("one move, though it is the last rank", r, "1a3/P4/4a/5 w - - - 00 0", "a4=Q axb4");
        Check c = new Check("blast and becoming", r);
        int p = c.position("1a3/P4/4a/5 w - - - 00 0");
        c.due("what it becomes", c.x.move(p, 1, 3), Check.NONE);
        c.due("it becomes so without taking", c.x.move(p, 0, 3), 3);
        // By catch the squares around t are asked, not those around the man of PASS, which is taken all the same.
        String d = "board 5 6;man p to fore pass 0 1 ride 3 from 1;man c to catch fore -1 1;man i to fore 4 5;blast p;";
        written("by catch", d, "5/5/I1P1i/i2cI/I3c/Ii1iI b - c4c2c3 - 00 3", "Cxc2", "5/5/I3i/i3I/I3c/I3I w - - - 00 0");
    }

    /** "behind it the own ROYAL man (if there was one) is there, and, unless the other's has gone away by it, is not ATTACKED" */
    private static void blastLegal() {
        String r = "board 5 4;man k 0 1,1 1;man a 0 1;man r 0 1 ride 4;man i to fore 4 3;royal k;blast;";
        texts("a ROYAL man may not take", r, "4k/5/1i3/K4 w - - - 00 0", "Kb1 Ka2");
        texts("nor may it stand beside a taking", r, "4k/5/aA3/1K3 w - - - 00 0", "Kc1 Kc2 Ac2 Ab3");
        Check c = new Check("the other's goes away", r);
        int p = c.position("3ak/3A1/5/K3r w - - - 00 0");
        c.due("in check", c.x.attacked(p, 0, 1), 1);
        c.due("a taking that ends it, though the own one stays ATTACKED", c.texts(p), "Ka2 Kb2 Axd4#");
        c.due("ended", c.x.ended(c.after(p, "Axd4")), 1);
        p = c.position("5/5/2K1k/2Ar1 w - - - 00 0");
        c.due("both would go away: it is not LEGAL", c.hear(p, "Axd1"), Check.NONE);
        p = c.position("K4/5/4k/2Ar1 w - - - 00 0");
        c.due("the other's alone", c.said(p, c.hear(p, "Axd1")), "Axd1#");
        p = c.position("k4/5/2K2/2Ar1 w - - - 00 0");
        c.due("the own one alone", c.hear(p, "Axd1"), Check.NONE);
    }

    /** "RIGHTS of a side go when its ROYAL man moves; a square's when a man leaves it, comes to it, or goes away on it." */
    private static void rightsGo() {
        String r = "board 8 3;man k 0 1;man r 0 1 ride 7;man n 1 2;royal k;castle r;";
        String p = "r3k2r/8/R3K2R w a1h1a3h3 - - 00 0";
        written("the ROYAL man moves", r, p, "Kd1", "r3k2r/8/R2K3R b a3h3 - - 00 1");
        written("it castles", r, p, "O-O", "r3k2r/8/R4RK1 b a3h3 - - 00 1");
        written("a man leaves it", r, p, "Rb1", "r3k2r/8/1R2K2R b h1a3h3 - - 00 1");
        written("a man leaves one, and comes to another", r, p, "Rxa3", "R3k2r/8/4K2R b h1h3 - - 00 0");
        written("another man moves", r, "r3k2r/8/RN2K2R w a1h1a3h3 - - 00 0", "Nc3", "r1N1k2r/8/R3K2R b a1h1a3h3 - - 00 1");
        written("BLACK's ROYAL man moves", r, "r3k2r/8/R3K2R b a1h1a3h3 - - 00 0", "Kd3", "r2k3r/8/R3K2R w a1h1 - - 00 1");
        Check c = new Check("a man that comes back", r);
        int q = c.after(c.after(c.after(c.position(p), "Rb1"), "Rb3"), "Ra1");
        c.due("has no right", c.written(q), "1r2k2r/8/R3K2R b h1h3 - - 00 3");
        String b = "board 8 3;man k 0 1;man r 0 1 ride 7;man n 1 2;man f 0 1;royal k;castle r;blast;";
        written("a man goes away on it", b, "4k1nr/6R1/R3K3 w a1h3 - - 00 0", "Rxg3", "4k3/8/R3K3 b a1 - - 00 0");
    }

    /** "PASS: t and the squares BETWEEN, in order, when the STEP has pass, k is 2 or more, and the man is there; else none" */
    private static void passes() {
        String r = "board 8 3;man l pass 0 1 ride 7;man i to fore 7 2;";
        written("k is 1", r, "7i/8/L7 w - - - 00 0", "Lb1", "7i/8/1L6 b - - - 00 1");
        written("k is 2", r, "7i/8/L7 w - - - 00 0", "Lc1", "7i/8/2L5 b - c1b1 - 00 1");
        written("k is 7", r, "6i1/8/L7 w - - - 00 0", "Lh1", "6i1/8/7L b - h1b1c1d1e1f1g1 - 00 1");
        written("the other way", r, "6i1/8/7L w - - - 00 0", "La1", "6i1/8/L7 b - a1g1f1e1d1c1b1 - 00 1");
        written("with a taking", r, "6i1/8/L2i4 w - - - 00 9", "Lxd1", "6i1/8/3L4 b - d1b1c1 - 00 0");
        written("another's PASS goes", r, "6l1/8/L7 b - - - 00 0", "Lh3", "7l/8/L7 w - - - 00 1");
        String b = "board 8 3;man l pass 0 1 ride 7;man i to fore 7 2;blast;";
        written("the man is not there", b, "6i1/8/L2i4 w - - - 00 9", "Lxd1", "6i1/8/8 b - - - 00 0");
        String o = "board 3 5;man p to fore pass 0 1 ride 4;man q 1 1;becomes p q;";
        written("as another one, too", o, "2q/3/3/3/P2 w - - - 00 9", "a5=Q", "Q1q/3/3/3/3 b - a5a2a3a4 - 00 0");
        Check c = new Check("a PASS is there for one move", r);
        int p = c.after(c.after(c.position("7l/8/L7 w - - - 00 0"), "Lc1"), "Lh2");
        c.due("gone", c.written(p), "8/7l/2L5 w - - - 00 2");
    }

    /** "CLOCK: 0 behind a taking, a DROP, a move (but CASTLING) of a man that becomes others; else one more (200 at most)" */
    private static void clocks() {
        String r = "board 8 3;man k 0 1;man m 1 2;man a 0 1;man p fore 0 1;royal k;castle p;becomes p a;hand;";
        for (int n : new int[] {0, 1, 99, 100, 198, 199, 200}) {
            String rest = " w a1 - A 00 " + n;
            String p = "k7/1a6/P3K2M" + rest;
            Check c = new Check("clocks behind " + n, r);
            int q = c.position(p);
            int more = Math.min(n + 1, 200);
            c.due("a plain move", c.x.figure(c.after(q, "Kf1"), 1), more);
            c.due("castling of a man that becomes others", c.x.figure(c.after(q, "O-O-O"), 1), more);
            c.due("a move of it", c.x.figure(c.after(q, "a2"), 1), 0);
            c.due("a drop", c.x.figure(c.after(q, "A@b1"), 1), 0);
            c.due("a taking", c.x.figure(c.after(c.position("k7/8/P3K1aA w - - - 00 " + n), "Axg1"), 1), 0);
        }
    }

    /** "With checks, if then the ROYAL man of the side to move is ATTACKED, the other side has one more CHECK (9 at most)." */
    private static void checks() {
        String r = "board 3 3;man k 0 1;man r 0 1 ride 2;royal k;checks 9;";
        for (int n = 0; n <= 8; n++) {
            Check c = new Check("checks behind " + n, r);
            int p = c.position("k2/3/1KR w - - - " + n + (8 - n) + " 0");
            int q = c.after(p, n == 8 ? "Rc3#" : "Rc3+");
            c.due("one more", c.x.figure(q, 2), n + 1);
            c.due("the other's stay", c.x.figure(q, 3), 8 - n);
            c.due("nine end it", c.x.ended(q), n == 8 ? 3 : 0);
            c.due("no check", c.x.figure(c.after(p, "Rc2"), 2), n);
        }
        written("without checks there are none", "board 3 3;man k 0 1;man r 0 1 ride 2;royal k;", "k2/3/1KR w - - - 00 0", "Rc3+", "k1R/3/1K1 b - - - 00 1");
        Check c = new Check("more than told", r.replace("checks 9", "checks 1"));
        c.due("ended", c.x.ended(c.position("k2/3/1KR w - - - 50 0")), 3);
    }

    /** "behind it the own ROYAL man (if there was one) is there, and [..] is not ATTACKED" */
    private static void legal() {
        String r = "board 3 3;man k 0 1;man r 0 1 ride 2;man i to fore 2 2;royal k;";
        texts("into an attack", r, "1r1/2k/K2 w - - - 00 0", "Ka2");
        texts("a man that shuts a line", r, "r1k/R2/K2 w - - - 00 0", "Kb1 Rxa3+");
        texts("no ROYAL man of its own", r, "r1k/R2/3 w - - - 00 0", "Ra1 Rb2 Rc2+ Rxa3+");
        Check c = new Check("a catch that lays the king open");
        c.due("the man of PASS alone stood between", c.hear(c.position("b3k3/8/8/3pP3/8/8/6K1/8 w - d5d6 - 00 0"), "exd6"), Check.NONE);
        c.due("nothing looks at it", c.hear(c.position("4k3/8/8/3pP3/8/8/6K1/8 w - d5d6 - 00 0"), "exd6") >= 0 ? 1 : 0, 1);
        c.due("another move leaves it there", c.hear(c.position("b3k3/8/8/3pP3/8/8/6K1/8 w - d5d6 - 00 0"), "e6") >= 0 ? 1 : 0, 1);
        texts("no ROYAL man told", "board 3 3;man k 0 1;man r 0 1 ride 2;", "1r1/2k/K2 w - - - 00 0", "Kb1 Ka2");
    }

    /** "with shy the other's is not ATTACKED; with must it takes, if any of these does" */
    private static void shyAndMust() {
        String r = "board 3 3;man k 0 1;man r 0 1 ride 2;royal k;";
        texts("shy: none that gives check", r + "shy;", "k2/3/1KR w - - - 00 0", "Ka1 Kb2 Rc2");
        texts("must: the one that takes", r + "must;", "k2/2r/1KR w - - - 00 0", "Rxc2");
        texts("must: none takes", r + "must;", "k2/3/1KR w - - - 00 0", "Ka1 Kb2 Rc2 Rc3+");
        texts("must: a taking that is not LEGAL does not count", r + "must;", "k1r/3/r1K w - - - 00 0", "");
        texts("must and shy: a taking that gives check does not count", r + "must;shy;", "k1r/3/1KR w - - - 00 0", "Ka1 Kb2 Rc2");
        texts("must: drops take nothing", "board 3 3;man a 0 1;hand;must;", "3/1a1/1A1 w - - A 00 0", "Axb2#");
    }

    private static void end(String about, String rules, String position, int end, int winner) {
        Check c = new Check(about, rules);
        int p = c.position(position);
        c.due("position", p, 0);
        c.due("ended", c.x.ended(p), end);
        c.due("result", c.x.result(p), winner);
        if (end > 0) c.due("no LEGAL move", c.x.moves(p), 0);
    }

    /** "A position has ENDED, by the first of these [..]" */
    private static void ended() {
        String r = "board 3 3;man k 0 1;man r 0 1 ride 2;man i to fore 2 2;royal k;";
        for (String side : new String[] {" w", " b"}) {
            String rest = side + " - - - 00 0";
            int me = side.equals(" w") ? 0 : 1;
            end("2", r + "hill a1;", "2k/3/K2" + rest, 2, 0);
            end("2", r + "hill c3;", "2k/3/K2" + rest, 2, 1);
            end("2, both: that not to move first", r + "hill a1 c3;", "2k/3/K2" + rest, 2, 1 - me);
            end("4, WHITE has none", r, "2k/3/3" + rest, 4, 1);
            end("4, BLACK has none", r, "3/3/K2" + rest, 4, 0);
            end("4, bare lost", r + "bare lost;", "3/3/K2" + rest, 4, 0);
            end("4, bare won", r + "bare won;", "3/3/K2" + rest, 4, 1);
            end("4, no men: that to move first", r, "3/3/3" + rest, 4, 1 - me);
            end("4, no men, bare won", r + "bare won;", "3/3/3" + rest, 4, me);
            end("6", r, "1i1/3/I2" + rest, me == 0 ? 0 : 6, me == 0 ? Check.NONE : 2);
            end("6, stale won", r + "stale won;", "1i1/3/I2" + rest, me == 0 ? 0 : 6, me == 0 ? Check.NONE : 1);
        }
        for (int n = 1; n <= 9; n++) {
            String c = r + "checks " + n + ";";
            end("3, as many", c, "2k/3/K2 w - - - " + n + "0 0", 3, 0);
            end("3, as many", c, "2k/3/K2 w - - - 0" + n + " 0", 3, 1);
            end("3, both: that not to move first", c, "2k/3/K2 w - - - 99 0", 3, 1);
            end("3, both: that not to move first", c, "2k/3/K2 b - - - 99 0", 3, 0);
            end("3, one fewer", c, "2k/3/K2 w - - - " + (n - 1) + (n - 1) + " 0", 0, Check.NONE);
        }
        end("4, men in HAND", r + "hand;", "3/3/K2 w - - r 00 0", 0, Check.NONE);
        end("4, none on squares, men in both HANDS", r + "hand;", "3/3/3 w - - Rr 00 0", 0, Check.NONE);
        end("4, none in HAND", r + "hand;", "3/3/K2 w - - R 00 0", 4, 0);
        end("5, mate", r, "rr1/2k/K2 w - - - 00 0", 5, 1);
        end("5, stale won is not asked", r + "stale won;", "rr1/2k/K2 w - - - 00 0", 5, 1);
        end("6, stalemate", r, "1r1/2r/K2 w - - - 00 0", 6, 2);
        end("6, stale won", r + "stale won;", "1r1/2r/K2 w - - - 00 0", 6, 0);
        end("6, stale lost", r + "stale lost;", "1r1/2r/K2 w - - - 00 0", 6, 1);
        end("6, no ROYAL man", r, "1r1/2r/1I1 w - - - 00 0", 6, 2);
    }

    private static void endedFirst() {
        String r = "board 3 3;man k 0 1;man r 0 1 ride 2;royal k;checks 2;hill a1;bare won;";
        end("2 ahead of 3", r, "2k/3/K2 w - - - 02 0", 2, 0);
        end("2 ahead of 4", r, "3/3/K2 b - - - 00 0", 2, 0);
        end("2 ahead of 5", r, "rr1/2k/K2 w - - - 00 0", 2, 0);
        end("3 ahead of 4", r, "3/3/1K1 b - - - 20 0", 3, 0);
        end("3 ahead of 5", r, "1rr/k2/2K w - - - 20 0", 3, 0);
        end("4 ahead of 6", r, "3/3/1K1 b - - - 00 0", 4, 1);
        String b = "board 3 3;man k 0 1;man a 0 1;royal k;blast;bare won;";
        Check c = new Check("1 ahead of 4", b);
        int q = c.after(c.position("ka1/1A1/K2 w - - - 00 0"), "Axb3");
        c.due("no man of BLACK", c.written(q), "3/3/K2 b - - - 00 0");
        c.due("ended", c.x.ended(q), 1);
        c.due("result", c.x.result(q), 0);
        end("blast without a ROYAL man", "board 3 3;man a 0 1;blast;", "2a/3/A2 w - - - 00 0", 0, Check.NONE);
    }

    /** Promise 14: "How many LEGAL moves. UNKNOWN." */
    private static void moves() {
        Check c = new Check("promise 14", "board 3 3;man a 0 1;");
        for (int p : new int[] {0, -1, 59, 60, LEAST, MOST}) c.due("moves(" + p + ")", c.x.moves(p), Check.UNKNOWN);
        c.due("none", c.x.moves(c.position("3/3/3 w - - - 00 0")), 0);
        // Very many: twelve kinds in HAND, to 62 squares.
        StringBuilder r = new StringBuilder("board 8 8;hand;");
        StringBuilder hand = new StringBuilder();
        for (char m = 'a'; m < 'm'; m++) {
            r.append("man ").append(m).append(" to fore 0 1;");
            hand.append(Character.toUpperCase(m));
        }
        Check d = new Check("very many", r.toString());
        int p = d.position("a7/8/8/8/8/8/8/8 w - - " + hand + " 00 0");
        d.due("63 times 12", d.x.moves(p), 756);
        d.due("the last one's square", d.x.move(p, 755, 1), 63);
        d.due("the last one's man", d.x.move(p, 755, 2), 11);
        d.due("none more", d.x.move(p, 756, 0), Check.UNKNOWN);
    }

    /** Promise 15: "3 [..] (NONE; with blast, when it takes, NONE), [..] OUTSIDE, UNKNOWN." */
    private static void move() {
        Check c = new Check("promise 15", "board 3 3;man a 0 1;");
        c.position("2a/3/A2 w - - - 00 0");
        for (int what : new int[] {-1, 6, LEAST, MOST})
            for (int p : new int[] {0, 1, -1}) for (int i : new int[] {0, 2, -1}) c.due("move(" + p + ", " + i + ", " + what + ")", c.x.move(p, i, what), Check.OUTSIDE);
        for (int what = 0; what < 6; what++) {
            for (int i : new int[] {2, -1, LEAST, MOST}) c.due("move(0, " + i + ", " + what + ")", c.x.move(0, i, what), Check.UNKNOWN);
            for (int p : new int[] {1, -1, 60, LEAST, MOST}) c.due("move(" + p + ", 0, " + what + ")", c.x.move(p, 0, what), Check.UNKNOWN);
        }
        int[][] want = {{0, 1, 0, Check.NONE, Check.NONE, 0}, {0, 3, 0, Check.NONE, Check.NONE, 0}};
        for (int i = 0; i < 2; i++) for (int what = 0; what < 6; what++) c.due("move(0, " + i + ", " + what + ")", c.x.move(0, i, what), want[i][what]);
    }

    /** Promise 16: "its place, the least free one. UNKNOWN, ROOM." */
    private static void go() {
        Check c = new Check("promise 16", "board 3 3;man a 0 1;");
        c.position("2a/3/A2 w - - - 00 0");
        for (int i : new int[] {2, -1, LEAST, MOST}) c.due("go(0, " + i + ")", c.x.go(0, i), Check.UNKNOWN);
        for (int p : new int[] {1, -1, 60, LEAST, MOST}) c.due("go(" + p + ", 0)", c.x.go(p, 0), Check.UNKNOWN);
        for (int i = 1; i < 60; i++) c.due("go", c.x.go(0, 1), i);
        c.due("no room", c.x.go(0, 1), Check.ROOM);
        c.due("no such move is told first", c.x.go(0, 2), Check.UNKNOWN);
        c.x.drop(17);
        c.due("the least free one", c.x.go(0, 0), 17);
        c.due("written", c.written(17), "2a/3/1A1 b - - - 00 1");
        Check d = new Check("go from an ended one", "board 3 3;man a 0 1;");
        d.due("no move", d.x.go(d.position("3/3/A2 w - - - 00 0"), 0), Check.UNKNOWN);
    }

    /** Promise 17: "How many ROWS of k (0 .. 6). OUTSIDE, UNKNOWN, ROOM" */
    private static void rows() {
        Check c = new Check("promise 17", "board 3 3;man a fore 0 1;");
        int p = c.position("2a/3/A2 w - - - 00 0");
        int[] want = {1, 1, 1, 1, 1, 0, 0};
        for (int k = 0; k <= 6; k++) c.due("rows(0, " + k + ")", c.x.rows(p, k), want[k]);
        for (int k : new int[] {-1, 7, LEAST, MOST}) {
            c.due("rows(0, " + k + ")", c.x.rows(p, k), Check.OUTSIDE);
            c.due("rows(9, " + k + ")", c.x.rows(9, k), Check.OUTSIDE);
        }
        for (int q : new int[] {1, -1, 60, LEAST, MOST}) for (int k = 0; k <= 6; k += 3) c.due("rows(" + q + ", " + k + ")", c.x.rows(q, k), Check.UNKNOWN);
        p = c.position("3/3/A2 w - - - 00 0");
        c.due("of none there is one, though it has ended", c.x.rows(p, 0), 1);
        c.due("but no longer one", c.x.rows(p, 1), 0);
    }

    /** Promises 18 and 19: "0: it has not. UNKNOWN.", "2: it is drawn; NONE: it has not ENDED. UNKNOWN." */
    private static void endedAndResult() {
        Check c = new Check("promises 18 and 19", "board 3 3;man a 0 1;");
        for (int p : new int[] {0, -1, 59, 60, LEAST, MOST}) {
            c.due("ended(" + p + ")", c.x.ended(p), Check.UNKNOWN);
            c.due("result(" + p + ")", c.x.result(p), Check.UNKNOWN);
        }
        c.position("2a/3/A2 w - - - 00 0");
        c.due("it has not", c.x.ended(0), 0);
        c.due("it has not", c.x.result(0), Check.NONE);
    }
}
