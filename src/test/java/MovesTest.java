/** Promises 14 to 19: moves, what they do, ROWS, and how positions end. */
public final class MovesTest {
    private static final String PROMOTES = " royal k; becomes p q r b n; castle r;";

    public static void main(String[] args) {
        knownRows();
        rowsRefused();
        orderOfMoves();
        castling();
        castlingRefused();
        castlingOrder();
        catching();
        firstStepCounts();
        passAsAnother();
        drops();
        hands();
        blasts();
        clocks();
        legal();
        royalTakenByCatch();
        over();
        foreAndVectors();
        mostWays();
        endings();
        asked();
        Check.finish();
    }

    /** Numbers that are known of chess and its kin from elsewhere. */
    private static void knownRows() {
        rows("chess", PROMOTES, Check.START, 20, 400, 8902);
        rows("chess", PROMOTES, "r3k2r/p1ppqpb1/bn2pnp1/3PN3/1p2P3/2N2Q1p/PPPBBPPP/R3K2R w a1h1a8h8 - - 00 0", 48, 2039, 97862);
        rows("chess", PROMOTES, "8/2p5/3p4/KP5r/1R3p1k/8/4P1P1/8 w - - - 00 0", 14, 191, 2812, 43238);
        rows("chess", PROMOTES, "r3k2r/Pppp1ppp/1b3nbN/nP6/BBP1P3/q4N2/Pp1P2PP/R2Q1RK1 w a8h8 - - 00 0", 6, 264, 9467);
        rows("chess", PROMOTES, "rnbq1k1r/pp1Pbppp/2p5/8/2B5/8/PPP1NnPP/RNBQK2R w a1h1 - - 00 0", 44, 1486, 62379);
        rows("atomic", PROMOTES + "blast p;", Check.START, 20, 400, 8902);
        rows("atomic", PROMOTES + "blast p;", "rn2kb1r/1pp1p2p/p2q1pp1/3P4/2P3b1/4PN2/PP3PPP/R2QKB1R b a1h1a8h8 - - 00 0", 40, 1238, 45237);
        rows("atomic", PROMOTES + "blast p;", "rn1qkb1r/p5pp/2p5/3p4/N3P3/5P2/PPP4P/R1BQK3 w a1a8h8 - - 00 0", 28, 833, 23353);
        rows("crazyhouse", PROMOTES + "hand;", "2k5/8/8/8/8/8/8/4K3 w - - QRBNPqrbnp 00 0", 301, 75353);
        rows("crazyhouse", PROMOTES + "hand;", "r1bqk2r/pppp1ppp/2n1p3/4P3/1b1Pn3/2NB1N2/PPP2PPP/R1BQK2R b a1h1a8h8 - - 00 0", 42, 1347, 58057);
        rows("three checks", PROMOTES + "checks 3;", "r3k2r/p1ppqpb1/bn2pnp1/3PN3/1p2P3/2N2Q1p/PPPBBPPP/R3K2R w a1h1a8h8 - - 22 0", 48, 2039, 97848);
        rows("antichess", "becomes p q r b n k; must; stale won; bare won;", "rnbqkbnr/pppppppp/8/8/8/8/PPPPPPPP/RNBQKBNR w - - - 00 0", 20, 400, 8067);
        rows("racing kings", "royal k; shy; hill a8 b8 c8 d8 e8 f8 g8 h8;", "8/8/8/8/8/8/krbnNBRK/qrbnNBRQ w - - - 00 0", 21, 421, 11264);
        rows("king of the hill", PROMOTES + "hill d4 e4 d5 e5;", Check.START, 20, 400, 8902);
    }

    private static void rows(String name, String more, String position, int... want) {
        Check c = new Check(name, Check.CHESSMEN + more);
        int p = c.position(position);
        for (int k = 1; k <= want.length; k++) c.due(position + " rows of " + k, c.x.rows(p, k), want[k - 1]);
        c.due("moves", c.x.moves(p), want[0]);
    }

    private static void rowsRefused() {
        Check c = new Check("rows refused");
        c.position(Check.START);
        c.due("rows(0, 0)", c.x.rows(0, 0), 1);
        c.due("rows(0, 4)", c.x.rows(0, 4), Check.ROOM);
        c.due("rows(0, 6)", c.x.rows(0, 6), Check.ROOM);
        c.due("rows(0, 7)", c.x.rows(0, 7), Check.OUTSIDE);
        c.due("rows(0, -1)", c.x.rows(0, -1), Check.OUTSIDE);
        c.due("rows(1, 7)", c.x.rows(1, 7), Check.OUTSIDE);
        c.due("rows(1, 1)", c.x.rows(1, 1), Check.UNKNOWN);
        c.due("moves(1)", c.x.moves(1), Check.UNKNOWN);
        Check d = new Check("rows that end", "board 3 3; man a fore 0 1;");
        d.position("2a/3/A2 w - - - 00 0");
        int[] want = {1, 1, 1, 1, 1, 0, 0};
        for (int k = 0; k < 7; k++) d.due("rows(0, " + k + ")", d.x.rows(0, k), want[k]);
    }

    private static void orderOfMoves() {
        Check c = new Check("order");
        c.position(Check.START);
        c.due("texts", c.texts(0), "Na3 Nc3 Nf3 Nh3 a3 a4 b3 b4 c3 c4 d3 d4 e3 e4 f3 f4 g3 g4 h3 h4");
        int p = c.position("1n2k3/P7/8/8/8/8/8/4K3 w - - - 00 0");
        c.due("texts", c.texts(p), "Kd1 Kf1 Kd2 Ke2 Kf2 a8=Q a8=R a8=B a8=N axb8=Q+ axb8=R+ axb8=B axb8=N");
        Check d = new Check("order as told", "board 3 3; man a 0 1; man b 0 1; man p fore 0 1; becomes p b a; hand;");
        p = d.position("3/P1a/3 w - - PABA 00 0");
        d.due("texts", d.texts(p), "a3=B a3=A A@a1 B@a1 A@b1 B@b1 A@c1 B@c1 A@b2 B@b2 P@b2 A@a3 B@a3 A@b3 B@b3 A@c3 B@c3");
    }

    private static void castling() {
        Check c = new Check("castling");
        int p = c.position("r3k2r/8/8/8/8/8/8/R3K2R w a1h1a8h8 - - 00 7");
        c.due("texts", c.texts(p), "Rb1 Rc1 Rd1 Ra2 Ra3 Ra4 Ra5 Ra6 Ra7 Rxa8+ O-O-O Kd1 Kf1 O-O Kd2 Ke2 Kf2"
            + " Rf1 Rg1 Rh2 Rh3 Rh4 Rh5 Rh6 Rh7 Rxh8+");
        int[] want = {4, 6, 0, Check.NONE, Check.NONE, 2};
        for (int i = 0; i < 6; i++) c.due("move(p, 13, " + i + ")", c.x.move(p, 13, i), want[i]);
        c.due("O-O", c.written(c.after(p, "O-O")), "r3k2r/8/8/8/8/8/8/R4RK1 b a8h8 - - 00 8");
        c.due("O-O-O", c.written(c.after(p, "O-O-O")), "r3k2r/8/8/8/8/8/8/2KR3R b a8h8 - - 00 8");
        c.due("Kf1", c.written(c.after(p, "Kf1")), "r3k2r/8/8/8/8/8/8/R4K1R b a8h8 - - 00 8");
        c.due("Rb1", c.written(c.after(p, "Rb1")), "r3k2r/8/8/8/8/8/8/1R2K2R b h1a8h8 - - 00 8");
        c.due("Rxa8+", c.written(c.after(p, "Rxa8")), "R3k2r/8/8/8/8/8/8/4K2R b h1h8 - - 00 0");
        p = c.position("r3k2r/8/8/8/8/8/8/R3K2R b a1h1a8h8 - - 00 200");
        c.due("BLACK's", c.written(c.after(p, "O-O-O")), "2kr3r/8/8/8/8/8/8/R3K2R w a1h1 - - 00 200");
        Check d = new Check("castling of a man that becomes others", "board 6 6; man k 0 1; man p fore 0 1; man q 0 1; royal k;"
            + " becomes p q; castle p;");
        p = d.position("6/6/6/6/4k1/P2K1P w a1f1 - - 00 5");
        d.due("two files away is too near", d.hear(p, "O-O"), Check.NONE);
        d.due("O-O-O", d.written(d.after(p, "O-O-O")), "6/6/6/6/4k1/1KP2P b - - - 00 6");
    }

    private static void castlingRefused() {
        Check c = new Check("castling refused");
        String[][] all = {{"4k3/8/8/8/8/8/8/RN2K2R w a1h1 - - 00 0", "O-O"}, {"4k3/8/8/8/8/8/8/R1b1K1nR w a1h1 - - 00 0", ""},
            {"4kr2/8/8/8/8/8/8/R3K2R w a1h1 - - 00 0", "O-O-O"}, {"4k1r1/8/8/8/8/8/8/R3K2R w a1h1 - - 00 0", "O-O-O"},
            {"4k2r/8/8/8/8/8/8/R3K2R w a1h1 - - 00 0", "O-O O-O-O"}, {"1r2k3/8/8/8/8/8/8/R3K2R w a1h1 - - 00 0", "O-O O-O-O"},
            {"4r1k1/8/8/8/8/8/8/R3K2R w a1h1 - - 00 0", ""}, {"4k3/8/8/8/8/8/8/R3K2R w h1 - - 00 0", "O-O"},
            {"4k3/8/8/8/8/8/8/R3K2R w - - - 00 0", ""}};
        for (String[] one : all) {
            int p = c.position(one[0]);
            c.due(one[0] + " O-O", c.hear(p, "O-O") >= 0 ? 1 : 0, (" " + one[1] + " ").contains(" O-O ") ? 1 : 0);
            c.due(one[0] + " O-O-O", c.hear(p, "O-O-O") >= 0 ? 1 : 0, (" " + one[1] + " ").contains(" O-O-O ") ? 1 : 0);
            c.x.drop(p);
        }
    }

    private static void castlingOrder() {
        Check c = new Check("castling behind a step", "board 8 8; man k 0 1, 0 2; man r 0 1 ride 7; royal k; castle r;");
        int p = c.position("4k3/8/8/8/8/8/8/4K2R w h1 - - 00 0");
        c.due("texts", c.texts(p).substring(0, 29), "Kc1 Kd1 Kf1 Kg1 O-O Ke2 Ke3 R");
        c.due("kind", c.x.move(p, 3, 5), 0);
        c.due("kind", c.x.move(p, 4, 5), 2);
    }

    private static void catching() {
        Check c = new Check("catch");
        int p = c.position("4k3/8/8/3pP3/8/8/8/4K3 w - d5d6 - 00 9");
        int i = c.hear(p, "exd6");
        int[] want = {36, 43, 5, Check.NONE, 5, 1};
        for (int w = 0; w < 6; w++) c.due("move(p, i, " + w + ")", c.x.move(p, i, w), want[w]);
        c.due("exd6", c.written(c.x.go(p, i)), "4k3/8/3P4/8/8/8/8/4K3 b - - - 00 0");
        c.due("PASS goes", c.written(c.after(p, "Kd1")), "4k3/8/8/3pP3/8/8/8/3K4 b - - - 00 10");
        c.due("PASS comes", c.written(c.after(c.position("4k3/8/8/8/8/8/P7/4K3 w - - - 00 3"), "a4")), "4k3/8/8/8/P7/8/8/4K3 b - a4a3 - 00 0");
        Check d = new Check("catch of a longer pass", "board 5 8; man p to fore 0 1, to fore pass 0 1 ride 3 from 2,"
            + " on fore catch 1 1, on fore catch -1 1;");
        p = d.position("5/5/5/2p2/p4/5/1P3/5 w - - - 00 0");
        d.due("no plain man", d.x.told(4), Check.NONE);
        int q = d.after(p, "Pb5");
        d.due("behind Pb5", d.written(q), "5/5/5/1Pp2/p4/5/5/5 b - b5b3b4 - 00 1");
        d.due("texts", d.texts(q), "Pa3 Pxb3# Pxb4# Pc4");
        d.due("Pxb3", d.written(d.after(q, "Pxb3")), "5/5/5/2p2/5/1p3/5/5 w - - - 00 0");
        d.due("Pxb4", d.written(d.after(q, "Pxb4")), "5/5/5/5/pp3/5/5/5 w - - - 00 0");
        Check e = new Check("catch, whatever to and on say", "board 5 5; man a to fore pass 0 1 ride 2; man c to catch fore 1 1, fore catch -1 1;");
        p = e.position("4a/5/2C2/5/5 b - - - 00 0");
        q = e.after(p, "Ae3");
        e.due("PASS", e.written(q), "5/5/2C1a/5/5 w - e3e4 - 00 1");
        e.due("no way there", e.texts(q), "Cb4 Cd4");
        p = e.position("4a/5/3C1/5/5 b - - - 00 0");
        q = e.after(p, "Ae3");
        e.due("with to", e.texts(q), "Cc4 Cxe4#");
        e.due("by catch", e.x.move(q, 1, 5), 1);
        p = e.position("3a1/5/4C/5/5 b - - - 00 0");
        q = e.after(p, "Ad3");
        e.due("with neither", e.texts(q), "Cxd4#");
        e.due("by catch", e.x.move(q, 0, 5), 1);
    }

    private static void firstStepCounts() {
        Check c = new Check("the first step counts", "board 3 5; man a to fore 0 1 ride 2, to fore pass 0 1 ride 2;"
            + " man b to fore pass 0 1 ride 2, to fore 0 1 ride 2; man c to fore 1 1, on catch fore 1 1; man d catch to fore 1 1;");
        int p = c.position("2a/3/3/3/ABC w - - - 00 0");
        c.due("without pass", c.written(c.after(p, "Aa3")), "2a/3/A2/3/1BC b - - - 00 1");
        c.due("with pass", c.written(c.after(p, "Bb3")), "2a/3/1B1/3/A1C b - b3b2 - 00 1");
        int q = c.after(c.position("1b1/2a/C1D/3/3 b - - - 00 0"), "Bb3");
        c.due("PASS", c.x.figure(q, 5), 7);
        // The man c of a3 comes to b4 by its first step, which has no catch; d can't come there.
        c.due("texts", c.texts(q), "Cb4");
        c.due("kind", c.x.move(q, 0, 5), 0);
        c.due("taken", c.x.move(q, 0, 4), Check.NONE);
    }

    private static void passAsAnother() {
        Check c = new Check("pass as another man", "board 3 3; man p to fore pass 0 1 ride 2; man q 0 1; man z on catch 1 1, 0 1; becomes p q;");
        int p = c.position("2z/3/P2 w - - - 00 4");
        int q = c.after(p, "a3=Q");
        c.due("PASS", c.written(q), "Q1z/3/3 b - a3a2 - 00 0");
        c.due("texts", c.texts(q), "Zc2 Zb3");
        int r = c.after(c.position("3/1z1/P2 w - - - 00 4"), "a3=Q");
        c.due("texts", c.texts(r), "Zb1 Za2 Zc2 Zxa3# Zb3");
        c.due("the text is no RIGHT position", c.position("Q1z/3/3 b - a3a2 - 00 0"), -5);
    }

    private static void drops() {
        Check c = new Check("drops", Check.CHESS + "hand;");
        int p = c.position("7k/8/8/8/8/8/8/K7 w - - QPq 00 30");
        int i = c.hear(p, "P@b4");
        int[] want = {Check.NONE, 25, 5, Check.NONE, Check.NONE, 3};
        for (int w = 0; w < 6; w++) c.due("move(p, i, " + w + ")", c.x.move(p, i, w), want[w]);
        c.due("P@b4", c.written(c.x.go(p, i)), "7k/8/8/8/1P6/8/8/K7 b - - Qq 00 0");
        c.due("not on the last rank", c.hear(p, "P@a8"), Check.NONE);
        c.due("not on the first rank", c.hear(p, "P@b1"), Check.NONE);
        c.due("a queen there", c.hear(p, "Q@b1") >= 0 ? 1 : 0, 1);
        c.due("not on a man", c.hear(p, "Q@a1"), Check.NONE);
        c.due("not what the other has", c.x.moves(c.position("7k/8/8/8/8/8/8/K7 w - - q 00 30")), 3);
        c.due("a check is met by drops between", c.texts(c.position("7k/8/8/8/8/8/8/r1K5 w - - NN 00 0")), "Kb2 Kc2 Kd2 N@b1");
    }

    private static void hands() {
        Check c = new Check("hands", Check.CHESS + "hand;");
        c.due("taken", c.written(c.after(c.position("4k3/8/8/8/8/8/8/r3K2R w h1 - - 00 3"), "Kf2")), "4k3/8/8/8/8/8/5K2/r6R b - - - 00 4");
        c.due("into the hand", c.written(c.after(c.position("r3k3/8/8/8/8/8/8/R3K3 w a1a8 - p 00 3"), "Rxa8")), "R3k3/8/8/8/8/8/8/4K3 b - - Rp 00 0");
        c.due("sixteen are enough", c.written(c.after(c.position("r3k3/8/8/8/8/8/8/R3K3 w - - RRRRRRRRRRRRRRRRr 00 3"), "Rxa8")),
            "R3k3/8/8/8/8/8/8/4K3 b - - RRRRRRRRRRRRRRRRr 00 0");
        c.due("by catch", c.written(c.after(c.position("4k3/8/8/3pP3/8/8/8/4K3 w - d5d6 - 00 9"), "exd6")), "4k3/8/3P4/8/8/8/8/4K3 b - - P 00 0");
        Check d = new Check("without hand");
        d.due("nowhere", d.written(d.after(d.position("r3k3/8/8/8/8/8/8/R3K3 w - - - 00 3"), "Rxa8")), "R3k3/8/8/8/8/8/8/4K3 b - - - 00 0");
    }

    private static void blasts() {
        Check c = new Check("blast", Check.CHESS + "blast p; hand;");
        int p = c.position("r2nk3/1P6/8/8/3p4/2PbP3/8/R3K2R w a1h1a8 - - 00 9");
        int i = c.hear(p, "bxa8");
        c.due("becomes", c.x.move(p, i, 3), Check.NONE);
        c.due("taken", c.x.move(p, i, 4), 2);
        c.due("bxa8", c.written(c.x.go(p, i)), "3nk3/8/8/8/3p4/2PbP3/8/R3K2R b a1h1 - R 00 0");
        c.due("no other text", c.hear(p, "bxa8=Q"), Check.NONE);
        c.due("but without taking", c.hear(p, "b8=Q") >= 0 ? 1 : 0, 1);
        c.due("pawns are firm, but for the one that takes", c.written(c.after(p, "cxd4")), "r2nk3/1P6/8/8/8/4P3/8/R3K2R b a1h1a8 - P 00 0");
        c.due("the own king may not go away", c.texts(c.position("4k3/8/8/8/4p3/3PK3/8/8 w - - - 00 0")), "d4 Kd2 Ke2 Kf2 Kd4 Kf4");
        c.due("rights go on squares where men go away", c.written(c.after(c.position("r3k1nr/p6p/8/8/8/8/6Q1/4K3 w a8h8 - - 00 0"), "Qxg8")),
            "r3k3/p6p/8/8/8/8/8/4K3 b a8 - N 00 0");
        Check d = new Check("blast and pass", "board 4 5; man p pass fore 0 1 ride 2; man s 1 1; blast s;");
        p = d.position("4/4/s3/4/P3 w - - - 00 0");
        int q = d.after(p, "Pxa3");
        d.due("no PASS", d.written(q), "4/4/4/4/4 b - - - 00 0");
        Check e = new Check("the other king goes away", Check.CHESS + "blast p;");
        p = e.position("r3k3/8/8/8/8/8/8/R3K2r w - - - 00 0");
        e.due("in check", e.texts(p), "Kd2 Ke2 Kf2");
        p = e.position("3rk3/8/8/8/8/8/8/3QK2r w - - - 00 0");
        e.due("in check, the taking that ends it is legal", e.texts(p), "Qxd8# Ke2 Kf2");
        q = e.after(p, "Qxd8");
        e.due("ended", e.x.ended(q), 1);
        e.due("result", e.x.result(q), 0);
        e.due("moves", e.x.moves(q), 0);
    }

    private static void clocks() {
        Check c = new Check("clocks", Check.CHESS + "checks 9;");
        c.due("a pawn", c.x.figure(c.after(c.position("4k3/8/8/8/8/8/P7/4K3 w - - - 00 9"), "a3"), 1), 0);
        c.due("a king", c.x.figure(c.after(c.position("4k3/8/8/8/8/8/P7/4K3 w - - - 00 199"), "Kd1"), 1), 200);
        c.due("no more", c.x.figure(c.after(c.position("4k3/8/8/8/8/8/P7/4K3 w - - - 00 200"), "Kd1"), 1), 200);
        int p = c.after(c.position("4k3/8/8/8/8/8/8/R3K3 w - - - 73 0"), "Ra8+");
        c.due("a check of WHITE", c.x.figure(p, 2), 8);
        c.due("not of BLACK", c.x.figure(p, 3), 3);
        c.due("no check", c.x.figure(c.after(c.position("4k3/8/8/8/8/8/8/R3K3 w - - - 73 0"), "Ra7"), 2), 7);
        c.due("nine end it", c.x.moves(c.position("4k3/8/8/8/8/8/8/R3K3 w - - - 93 0")), 0);
    }

    private static void legal() {
        Check c = new Check("legal");
        c.due("a bound man", c.texts(c.position("4k3/4r3/8/8/8/8/4R3/4K3 w - - - 00 0")), "Kd1 Kf1 Kd2 Kf2 Re3 Re4 Re5 Re6 Rxe7+");
        c.due("out of check", c.texts(c.position("4k3/8/8/8/8/5n2/6P1/4K3 w - - - 00 0")), "Kd1 Kf1 Ke2 Kf2 gxf3");
        c.due("a catch that lays the king open", c.hear(c.position("8/8/8/K2pP2r/8/8/8/4k3 w - d5d6 - 00 0"), "exd6"), Check.NONE);
        c.due("no king, no care", c.x.moves(c.position("8/8/8/8/8/8/8/R6r w - - - 00 0")), 14);
        Check d = new Check("shy", Check.CHESS + "shy;");
        d.due("no check may be given", d.texts(d.position("k7/8/8/8/8/8/1R6/7K w - - - 00 0")), "Kg1 Kg2 Kh2 Rb1 Rc2 Rd2 Re2 Rf2 Rg2 Rh2 Rb3 Rb4 Rb5 Rb6 Rb7");
        Check e = new Check("must", Check.CHESS + "must;");
        e.due("takings alone", e.texts(e.position("4k3/8/8/3p4/4P3/8/8/4K2R w h1 - - 00 0")), "exd5");
        e.due("none that is not legal", e.texts(e.position("4k3/8/8/8/4r3/3p4/4P3/4K3 w - - - 00 0")), "Kd1 Kf1 Kd2 Kf2 e3");
        e.due("by catch", e.texts(e.position("4k3/8/8/3pP3/8/8/8/4K3 w - d5d6 - 00 9")), "exd6");
    }

    private static void royalTakenByCatch() {
        Check c = new Check("a royal man taken by catch", "board 5 5; man k 0 1, 1 1, to fore pass 0 1 ride 2 from 1;"
            + " man g to fore catch -1 1; man r 0 1 ride 4; royal k;");
        int p = c.position("4k/5/1g3/5/K2R1 w - - - 00 0");
        int q = c.after(p, "Ka3");
        c.due("PASS", c.written(q), "4k/5/Kg3/5/3R1 b - a3a2 - 00 1");
        c.due("texts", c.texts(q), "Gxa2 Ke3 Ke4");
        int r = c.after(q, "Gxa2");
        c.due("taken", c.x.move(q, 0, 4), 0);
        c.due("not ended", c.x.ended(r), 0);
        c.due("no king", c.written(r), "4k/5/5/g4/3R1 w - - - 00 0");
        p = c.position("4k/5/1g3/5/K3R b - - - 00 0");
        c.due("in check", c.texts(p), "Kd4 Kd5");
        p = c.position("4k/5/Kg3/5/4R b - a3a2 - 00 0");
        c.due("in check, but the other's king goes away", c.texts(p), "Gxa2 Kd4 Kd5");
        r = c.after(p, "Gxa2");
        c.due("its king may be taken now", c.hear(r, "Rxe5") >= 0 ? 1 : 0, 1);
    }

    private static void over() {
        Check c = new Check("over", "board 5 5; man c to 0 1 ride 4, on over 0 1 ride 4;");
        c.due("texts", c.texts(c.position("c4/5/c4/5/Cc1cc w - - - 00 0")), "Cxd1 Ca2 Cxa5");
        Check d = new Check("over, either", "board 5 5; man c over 0 1 ride 4;");
        d.due("texts", d.texts(d.position("5/5/5/c4/C1cc1 w - - - 00 0")), "Cxd1 Ca3 Ca4 Ca5");
    }

    private static void foreAndVectors() {
        Check c = new Check("fore", "board 5 5; man a fore 1 2 ride 2; man b fore -1 -1; man n 1 2; man w 0 2; man x 2 2 ride 2;");
        int p = c.position("5/5/2a2/5/A3B w - - - 00 0");
        c.due("WHITE", c.texts(p), "Ab3 Ac5");
        c.due("BLACK's ranks go down, its files not", c.texts(c.position("5/5/2a2/5/A3B b - - - 00 0")), "Ad1");
        c.due("ride", c.texts(c.position("b4/5/5/5/A4 w - - - 00 0")), "Ab3 Ac5");
        c.due("backwards", c.texts(c.position("a4/5/4B/5/5 w - - - 00 0")), "Bd2");
        c.due("a knight", c.texts(c.position("a4/5/2N2/5/5 w - - - 00 0")), "Nb1 Nd1 Na2 Ne2 Na4 Ne4 Nb5 Nd5");
        c.due("a leaper goes over men", c.texts(c.position("a4/5/1aWa1/2a2/5 w - - - 00 0")), "Wc1 Wa3 We3 Wc5");
        c.due("ride is stopped by a man between", c.texts(c.position("5/5/2a2/5/X4 w - - - 00 0")), "Xxc3#");
    }

    private static void mostWays() {
        Check c = new Check("as many ways as can be", Check.mostWays());
        c.due("by the last way of all", c.texts(c.position("A5Al/8/8/8/8/8/8/8 b - - - 00 0")), "Lh1 Lh2 Lh3 Lh4 Lh5 Lh6 Lh7 Lxg8");
        c.due("by the first ones", c.texts(c.position("8/8/8/8/8/8/8/Al6 w - - - 00 0")), "Axb1# Aa2 Aa3 Aa4 Aa5 Aa6 Aa7 Aa8");
        c.due("rules again", c.rules("board 3 3; man a 1 1;"), 1);
        c.due("few ways", c.texts(c.position("a2/3/A2 w - - - 00 0")), "Ab2");
        c.due("many again", c.rules(Check.mostWays()), 12);
        c.due("by the last way of all", c.x.moves(c.position("A5Al/8/8/8/8/8/8/8 b - - - 00 0")), 8);
    }

    private static void endings() {
        String b = " w - - - 00 0";
        end("mate", Check.CHESS, "R5k1/5ppp/8/8/8/8/8/K7 b - - - 00 0", 5, 0);
        end("mate of WHITE", Check.CHESS, "8/8/8/8/8/2k5/1q6/K7 w - - - 00 0", 5, 1);
        end("stalemate", Check.CHESS, "7k/5Q2/8/8/8/8/8/K7 b - - - 00 0", 6, 2);
        end("stale won", Check.CHESS + "stale won;", "7k/5Q2/8/8/8/8/8/K7 b - - - 00 0", 6, 1);
        end("stale lost", Check.CHESS + "stale lost;", "7k/5Q2/8/8/8/8/8/K7 b - - - 00 0", 6, 0);
        end("stale does not ask for mate", Check.CHESS + "stale won;", "R5k1/5ppp/8/8/8/8/8/K7 b - - - 00 0", 5, 0);
        end("not ended", Check.CHESS, Check.START, 0, Check.NONE);
        end("no men", Check.CHESS, "8/8/8/8/8/8/8/K7" + b, 4, 0);
        end("no men, bare lost", Check.CHESS + "bare lost;", "8/8/8/8/8/8/8/K7" + b, 4, 0);
        end("no men, bare won", Check.CHESS + "bare won;", "8/8/8/8/8/8/8/K7" + b, 4, 1);
        end("no men at all: the side to move lost", Check.CHESS, "8/8/8/8/8/8/8/8" + b, 4, 1);
        end("no men at all, bare won", Check.CHESS + "bare won;", "8/8/8/8/8/8/8/8 b - - - 00 0", 4, 1);
        end("men in hand", Check.CHESS + "hand;", "8/8/8/8/8/8/8/K7 w - - q 00 0", 0, Check.NONE);
        end("hill", Check.CHESS + "hill d4;", "7k/8/8/8/3K4/8/8/8" + b, 2, 0);
        end("hill of the side not to move", Check.CHESS + "hill d4;", "7k/8/8/8/3K4/8/8/8 b - - - 00 0", 2, 0);
        end("both on hills", Check.CHESS + "hill d4 h8;", "7k/8/8/8/3K4/8/8/8" + b, 2, 1);
        end("both on hills", Check.CHESS + "hill d4 h8;", "7k/8/8/8/3K4/8/8/8 b - - - 00 0", 2, 0);
        end("another man on a hill", Check.CHESS + "hill d4;", "7k/8/8/8/3Q4/8/8/K7 b - - - 00 0", 0, Check.NONE);
        end("checks", Check.CHESS + "checks 3;", "7k/8/8/8/8/8/8/K7 w - - - 30 0", 3, 0);
        end("more checks", Check.CHESS + "checks 3;", "7k/8/8/8/8/8/8/K7 w - - - 07 0", 3, 1);
        end("both have checks", Check.CHESS + "checks 3;", "7k/8/8/8/8/8/8/K7 w - - - 33 0", 3, 1);
        end("too few checks", Check.CHESS + "checks 3;", "7k/8/8/8/8/8/8/K7 w - - - 22 0", 0, Check.NONE);
        end("hill ahead of checks", Check.CHESS + "checks 3; hill a1;", "7k/8/8/8/8/8/8/K7 w - - - 03 0", 2, 0);
        end("checks ahead of mate", Check.CHESS + "checks 1;", "R5k1/5ppp/8/8/8/8/8/K7 b - - - 01 0", 3, 1);
        Check c = new Check("ended refused");
        c.due("ended(0)", c.x.ended(0), Check.UNKNOWN);
        c.due("result(-1)", c.x.result(-1), Check.UNKNOWN);
    }

    private static void end(String name, String rules, String position, int end, int winner) {
        Check c = new Check(name, rules);
        int p = c.position(position);
        c.due("ended", c.x.ended(p), end);
        c.due("result", c.x.result(p), winner);
        if (end != 0) c.due("moves", c.x.moves(p), 0);
    }

    private static void asked() {
        Check c = new Check("move and go refused");
        int p = c.position("4k3/P7/8/8/8/8/8/4K3 w - - - 00 0");
        int[] want = {48, 56, 5, 1, Check.NONE, 0};
        for (int w = 0; w < 6; w++) c.due("move(p, 5, " + w + ")", c.x.move(p, 5, w), want[w]);
        c.due("move(p, 0, 6)", c.x.move(p, 0, 6), Check.OUTSIDE);
        c.due("move(p, 0, -1)", c.x.move(p, 0, -1), Check.OUTSIDE);
        c.due("move(9, 0, 6)", c.x.move(9, 0, 6), Check.OUTSIDE);
        c.due("move(9, 0, 0)", c.x.move(9, 0, 0), Check.UNKNOWN);
        c.due("move(p, 9, 0)", c.x.move(p, 9, 0), Check.UNKNOWN);
        c.due("move(p, -1, 0)", c.x.move(p, -1, 0), Check.UNKNOWN);
        c.due("move(p, 8, 0)", c.x.move(p, 8, 0), 48);
        c.due("go(p, 9)", c.x.go(p, 9), Check.UNKNOWN);
        c.due("go(p, -1)", c.x.go(p, -1), Check.UNKNOWN);
        c.due("go(3, 0)", c.x.go(3, 0), Check.UNKNOWN);
        c.due("go(p, 5)", c.x.go(p, 5), 1);
        c.due("written", c.written(1), "Q3k3/8/8/8/8/8/8/4K3 b - - - 00 0");
        c.due("the first one stays", c.written(p), "4k3/P7/8/8/8/8/8/4K3 w - - - 00 0");
    }
}
