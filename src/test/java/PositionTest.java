/** Promises 7 to 13: positions read, dropped, written, held against one another, and asked. */
public final class PositionTest {
    private static final String BARE = " w - - - 00 0";

    public static void main(String[] args) {
        faults();
        rightMen();
        rightPass();
        rightOthers();
        places();
        written();
        alike();
        asked();
        attacks();
        Check.finish();
    }

    private static void faults() {
        Check c = new Check("faults of positions");
        for (String t : new String[] {"|", "8/8/8/8/8/8/8/8|", "8/8/8/8/8/8/8/8|/", "8/8/8/8/8/8/8|  w", "|/8/8/8/8/8/8/8/8 w - - - 00 0",
            "|9/8/8/8/8/8/8/8 w - - - 00 0", "|0/8", "k|8/8", "7|/8/8/8/8/8/8/8", "44|4/8", "8|8/8", "|x7/8",
            "kqrbnp2/KQRBNP2/8/8/8/8/8/8|\n", "8/8/8/8/8/8/8/8 |W", "8/8/8/8/8/8/8/8 w|-", "8/8/8/8/8/8/8/8 w |w", "8/8/8/8/8/8/8/8 w |i1",
            "8/8/8/8/8/8/8/8 w a|9", "8/8/8/8/8/8/8/8 w a|0", "8/8/8/8/8/8/8/8 w a1|-", "8/8/8/8/8/8/8/8 w a1|a1 - - 00 0",
            "8/8/8/8/8/8/8/8 w h1|a1 - - 00 0", "8/8/8/8/8/8/8/8 w b2|c1", "8/8/8/8/8/8/8/8 w b2c|", "8/8/8/8/8/8/8/8 w b2c|c",
            "8/8/8/8/8/8/8/8 w -|- - - 00 0", "8/8/8/8/8/8/8/8 w - |x", "8/8/8/8/8/8/8/8 w - e4| - 00 0", "8/8/8/8/8/8/8/8 w - e4e|9",
            "8/8/8/8/8/8/8/8 w - e4e3|- 00 0", "8/8/8/8/8/8/8/8 w - - |x 00 0", "8/8/8/8/8/8/8/8 w - - Q|- 00 0",
            "8/8/8/8/8/8/8/8 w - - QQQQQQQQQQQQQQQQ|Q 00 0", "8/8/8/8/8/8/8/8 w - - QQQQQQQQqqqqqqqqRRRRRRRRrrrrrrrr|n 00 0",
            "8/8/8/8/8/8/8/8 w - - - |", "8/8/8/8/8/8/8/8 w - - - 0|", "8/8/8/8/8/8/8/8 w - - - 0| 0", "8/8/8/8/8/8/8/8 w - - - 00|0 0",
            "8/8/8/8/8/8/8/8 w - - - 00 |", "8/8/8/8/8/8/8/8 w - - - 00 |-", "8/8/8/8/8/8/8/8 w - - - 00 |201",
            "8/8/8/8/8/8/8/8 w - - - 00 |999x", "8/8/8/8/8/8/8/8 w - - - 00 |2010", "8/8/8/8/8/8/8/8 w - - - 00 200|0",
            "8/8/8/8/8/8/8/8 w - - - 00 000|0", "8/8/8/8/8/8/8/8 w - - - 00 20|x", "8/8/8/8/8/8/8/8 w - - - 00 7| "}) c.positionFault(t);
        c.due("none is there", c.x.told(5), 0);
        Check d = new Check("faults on 3 by 4", "board 3 4; man k 0 1;");
        for (String t : new String[] {"|4/3/3/3", "1|3/3/3/3", "3/3/3/3|/3 w", "3/3/3/3 w |d1", "3/3/3/3 w a|5", "3/3/|q2/3"}) d.positionFault(t);
        d.due("ones", d.position("111/12/21/K1k w - - - 00 007"), 0);
        d.due("written", d.written(0), "3/3/3/K1k w - - - 00 7");
    }

    private static void rightMen() {
        Check c = new Check("right men");
        c.due("no men", c.position("8/8/8/8/8/8/8/8" + BARE), 0);
        c.due("two kings", c.position("8/8/8/8/8/8/8/K1K4k" + BARE), -2);
        c.due("two kings of BLACK", c.position("8/8/8/8/8/8/P7/k1k4K" + BARE), -2);
        c.due("a king in hand, ahead of all", c.position("P7/8/8/8/8/8/8/8 w a1 - k 11 0"), -2);
        c.due("a pawn on its last rank, ahead of the rest", c.position("P7/8/8/8/8/8/8/8 w a1 - Q 11 0"), -3);
        c.due("a pawn of BLACK there", c.position("8/8/8/8/8/8/8/p7" + BARE), -3);
        c.due("a pawn on its first rank", c.position("p7/8/8/8/8/8/8/P7" + BARE), 1);
        Check d = new Check("right men with blast", Check.CHESS + "blast;");
        d.due("both kings", d.position("k7/8/8/8/8/8/8/K7" + BARE), 0);
        d.due("none of BLACK", d.position("8/8/8/8/8/8/8/K7" + BARE), -2);
        d.due("none at all", d.position("8/8/8/8/8/8/8/8" + BARE), -2);
        Check e = new Check("blast without a royal man", Check.CHESSMEN + "blast;");
        e.due("none at all", e.position("8/8/8/8/8/8/8/8" + BARE), 0);
        e.due("a king in hand", e.position("8/8/8/8/8/8/8/8 w - - k 00 0"), -8);
    }

    private static void rightPass() {
        Check c = new Check("right pass");
        c.due("good", c.position("4k3/8/8/8/4P3/8/8/4K3 b - e4e3 - 00 0"), 0);
        c.due("square", c.x.figure(0, 5), 28);
        c.due("of the side to move", c.position("4k3/8/8/8/4P3/8/8/4K3 w - e4e3 - 00 0"), -5);
        c.due("no man", c.position("4k3/8/8/8/8/8/8/4K3 b - e4e3 - 00 0"), -5);
        c.due("another man", c.position("4k3/8/8/8/4R3/8/8/4K3 b - e4e3 - 00 0"), -5);
        c.due("from a square that is not empty", c.position("4k3/8/8/8/4P3/8/4P3/4K3 b - e4e3 - 00 0"), -5);
        c.due("over a square that is not empty", c.position("4k3/8/8/8/4P3/4N3/8/4K3 b - e4e3 - 00 0"), -5);
        c.due("from another rank", c.position("4k3/8/8/4P3/8/8/8/4K3 b - e5e4 - 00 0"), -5);
        c.due("other squares", c.position("4k3/8/8/8/4P3/8/8/4K3 b - e4e2 - 00 0"), -5);
        c.due("more squares", c.position("4k3/8/8/8/4P3/8/8/4K3 b - e4e3e2 - 00 0"), -5);
        c.due("far more squares", c.position("4k3/8/8/8/4P3/8/8/4K3 b - e4e3e3e3e3e3e3e3e3e3 - 00 0"), -5);
        c.due("a wrong right comes first", c.position("4k3/8/8/8/4P3/8/8/4K3 w a1 e4e3 - 00 0"), -4);
        c.due("a check comes behind", c.position("4k3/8/8/8/8/4R3/8/4K3 w - e4e3 - 00 0"), -5);
        Check d = new Check("right pass, longer", "board 8 8; man l to pass 0 1 ride 7 from 1, fore 1 1;");
        d.due("six squares", d.position("7l/8/8/8/8/8/8/8 w - h8b8c8d8e8f8g8 - 00 0"), 0);
        d.due("in no other order", d.position("7l/8/8/8/8/8/8/8 w - h8g8f8e8d8c8b8 - 00 0"), -5);
        d.due("along the rank", d.position("8/8/8/8/8/8/8/3L4 b - d1c1b1 - 00 0"), -5);
        d.due("from the other hand", d.position("8/8/8/8/8/8/8/3L4 b - d1e1 - 00 0"), 1);
    }

    private static void rightOthers() {
        Check c = new Check("right others");
        c.due("rights", c.position("r3k2r/8/8/8/8/8/8/R3K2R w a1h1a8h8 - - 00 0"), 0);
        c.due("how many", c.x.figure(0, 4), 4);
        c.due("no man there", c.position("r3k2r/8/8/8/8/8/8/4K2R w a1 - - 00 0"), -4);
        c.due("another man", c.position("4k3/8/8/8/8/8/8/N3K3 w a1 - - 00 0"), -4);
        c.due("not the first rank", c.position("4k3/8/8/8/8/8/R7/4K3 w a2 - - 00 0"), -4);
        c.due("the other's first rank", c.position("4k3/8/8/8/8/8/8/r3K3 b a1 - - 00 0"), -4);
        c.due("the king not there", c.position("4k3/8/8/8/8/8/4K3/R7 w a1 - - 00 0"), -4);
        c.due("no king", c.position("4k3/8/8/8/8/8/8/R7 w a1 - - 00 0"), -4);
        c.due("beside the king", c.position("4k3/8/8/8/8/8/8/3RK3 w d1 - - 00 0"), 1);
        c.due("attacked", c.position("4k3/8/8/8/8/8/8/K3R3" + BARE), -6);
        c.due("attacked, ahead of checks", c.position("4k3/8/8/8/8/8/8/K3R3 w - - Q 11 0"), -6);
        c.due("the side to move may be", c.position("4k3/8/8/8/8/8/8/K3R3 b - - - 00 0"), 2);
        c.due("checks, ahead of hands", c.position("4k3/8/8/8/8/8/8/K7 w - - Q 01 0"), -7);
        c.due("hands", c.position("4k3/8/8/8/8/8/8/K7 w - - q 00 0"), -8);
        Check d = new Check("right with checks and hand", Check.CHESS + "checks 2; hand;");
        d.due("both", d.position("4k3/8/8/8/8/8/8/K7 w - - qPPPq 91 0"), 0);
        d.due("checks", d.x.figure(0, 2), 9);
        d.due("checks", d.x.figure(0, 3), 1);
        d.due("hand", d.x.figure(0, 6), 3);
        d.due("hand", d.x.figure(0, 7), 2);
        Check e = new Check("no castle told", Check.CHESSMEN + "royal k;");
        e.due("rights", e.position("4k3/8/8/8/8/8/8/R3K3 w a1 - - 00 0"), -4);
        e.due("a pawn that becomes none may stand there", e.position("P3k3/8/8/8/8/8/8/4K3 w - - - 00 0"), 0);
    }

    private static void places() {
        Check c = new Check("places");
        for (int i = 0; i < 60; i++) c.due("position", c.position("4k3/8/8/8/8/8/8/K7" + BARE), i);
        c.due("one too many", c.position("4k3/8/8/8/8/8/8/K7" + BARE), Check.ROOM);
        c.due("ROOM is ahead of a FAULT", c.position("nonsense"), Check.ROOM);
        c.due("the tape is used up", c.x.told(7), 0);
        c.due("told(5)", c.x.told(5), 60);
        c.due("go", c.x.go(0, 0), Check.ROOM);
        c.due("go, no such move", c.x.go(0, 50), Check.UNKNOWN);
        c.due("drop(60)", c.x.drop(60), Check.UNKNOWN);
        c.due("drop(-1)", c.x.drop(-1), Check.UNKNOWN);
        c.due("drop(17)", c.x.drop(17), 1);
        c.due("drop(17) again", c.x.drop(17), Check.UNKNOWN);
        c.due("drop(5)", c.x.drop(5), 1);
        c.due("told(5)", c.x.told(5), 58);
        c.due("moves(17)", c.x.moves(17), Check.UNKNOWN);
        c.due("the least one", c.position("4k3/8/8/8/8/8/8/K7" + BARE), 5);
        c.due("the next one", c.x.go(0, 0), 17);
    }

    private static void written() {
        Check c = new Check("written", Check.CHESS + "hand; checks 3;");
        String[][] both = {{"1111k3/44/8/8/8/8/8/K1111111 b - - qQpR 12 007", "4k3/8/8/8/8/8/8/K7 b - - QRqp 12 7"},
            {"r3k2r/8/8/8/3pP3/8/8/R3K2R b a1h1h8 e4e3 nbPQQp 00 200", "r3k2r/8/8/8/3pP3/8/8/R3K2R b a1h1h8 e4e3 QQPbnp 00 200"},
            {"4k3/8/8/8/8/8/8/4K3 w - - - 00 010", "4k3/8/8/8/8/8/8/4K3 w - - - 00 10"},
            {"4k3/8/8/8/8/8/8/4K3 w - - - 00 000", "4k3/8/8/8/8/8/8/4K3 w - - - 00 0"},
            {"4k3/8/8/8/8/8/8/4K3 w - - - 00 105", "4k3/8/8/8/8/8/8/4K3 w - - - 00 105"}};
        for (String[] pair : both) {
            int p = c.position(pair[0]);
            c.due("write", c.x.write(p), pair[1].length());
            c.due("written", c.out(), pair[1]);
        }
        c.due("write(-1)", c.x.write(-1), Check.UNKNOWN);
        c.due("write(60)", c.x.write(60), Check.UNKNOWN);
    }

    private static void alike() {
        Check c = new Check("same", Check.CHESS + "hand; checks 3;");
        String[] t = {"4k3/8/8/8/3pP3/8/8/4K3 b - e4e3 - 00 0", "4k3/8/8/8/3pP3/8/8/4K3 b - - - 00 0", "4k3/8/8/8/4P3/8/8/4K3 b - e4e3 - 00 0",
            "4k3/8/8/8/4P3/8/8/4K3 b - - - 00 50", "4k3/8/8/8/4P3/8/8/4K3 w - - - 00 0", "4k3/8/8/8/4P3/8/8/4K3 b - - - 10 0",
            "4k3/8/8/8/4P3/8/8/4K3 b - - q 00 0", "4k3/8/8/8/3rP3/8/8/4K3 b - - - 00 0", "4k3/8/8/8/8/8/8/4K2R w h1 - - 00 0",
            "4k3/8/8/8/8/8/8/4K2R w - - - 00 0"};
        for (int i = 0; i < t.length; i++) c.due("position " + t[i], c.position(t[i]), i);
        for (int i = 0; i < t.length; i++)
            for (int j = 0; j < t.length; j++) {
                boolean want = i == j || (i == 2 && j == 3) || (i == 3 && j == 2);
                c.due("same(" + i + ", " + j + ")", c.x.same(i, j) ? 1 : 0, want ? 1 : 0);
            }
        c.due("same(0, 10)", c.x.same(0, 10) ? 1 : 0, 0);
        c.due("same(-1, -1)", c.x.same(-1, -1) ? 1 : 0, 0);
        // The pawn that could take by catch is bound to its king, so that PASS does not count.
        int p = c.position("8/8/8/8/k2pP2R/8/8/4K3 b - e4e3 - 00 0");
        int q = c.position("8/8/8/8/k2pP2R/8/8/4K3 b - - - 00 0");
        c.due("a catch that is not legal", c.x.same(p, q) ? 1 : 0, 1);
    }

    private static void asked() {
        Check c = new Check("at and figure");
        c.position("4k3/8/8/3pP3/8/8/8/R3K3 w a1 d5d6 - 00 17");
        c.due("a king", c.x.at(0, 4), 0);
        c.due("BLACK's", c.x.at(0, 60), 1);
        c.due("a rook", c.x.at(0, 0), 4);
        c.due("a pawn of BLACK", c.x.at(0, 35), 11);
        c.due("empty", c.x.at(0, 63), Check.NONE);
        c.due("at(0, 64)", c.x.at(0, 64), Check.OUTSIDE);
        c.due("at(0, -1)", c.x.at(0, -1), Check.OUTSIDE);
        c.due("at(9, 64)", c.x.at(9, 64), Check.OUTSIDE);
        c.due("at(9, 0)", c.x.at(9, 0), Check.UNKNOWN);
        int[] want = {0, 17, 0, 0, 1, 35, 0, 0, 5};
        for (int i = 0; i < 9; i++) c.due("figure(0, " + i + ")", c.x.figure(0, i), want[i]);
        c.due("figure(0, 9)", c.x.figure(0, 9), Check.OUTSIDE);
        c.due("figure(7, -1)", c.x.figure(7, -1), Check.OUTSIDE);
        c.due("figure(7, 0)", c.x.figure(7, 0), Check.UNKNOWN);
        Check d = new Check("at on 3 by 3", "board 3 3; man z 0 1;");
        d.position("2z/3/Z2 b - - - 00 0");
        d.due("figure(0, 0)", d.x.figure(0, 0), 1);
        d.due("figure(0, 5)", d.x.figure(0, 5), Check.NONE);
        d.due("at(0, 8)", d.x.at(0, 8), 1);
        d.due("at(0, 9)", d.x.at(0, 9), Check.OUTSIDE);
    }

    private static void attacks() {
        Check c = new Check("attacked");
        c.position("4k3/8/8/8/8/8/P7/4K2R w - - - 00 0");
        c.due("a pawn hits", c.x.attacked(0, 17, 0), 1);
        c.due("a pawn does not hit ahead", c.x.attacked(0, 16, 0), 0);
        c.due("an own man's square", c.x.attacked(0, 4, 0), 1);
        c.due("behind a man", c.x.attacked(0, 3, 0), 1);
        c.due("behind the king", c.x.attacked(0, 2, 0), 0);
        c.due("far along the file", c.x.attacked(0, 63, 0), 1);
        c.due("by BLACK", c.x.attacked(0, 51, 1), 1);
        c.due("not by BLACK", c.x.attacked(0, 43, 1), 0);
        c.due("its own square", c.x.attacked(0, 7, 0), 0);
        c.due("square 64", c.x.attacked(0, 64, 0), Check.OUTSIDE);
        c.due("side 2", c.x.attacked(0, 0, 2), Check.OUTSIDE);
        c.due("side -1", c.x.attacked(5, 0, -1), Check.OUTSIDE);
        c.due("no position", c.x.attacked(1, 0, 0), Check.UNKNOWN);
        Check d = new Check("over and from", "board 8 8; man c over 0 1 ride 7, fore 1 2 from 1, to 1 1;");
        d.position("8/8/8/8/3c4/8/3c4/C2C1C1c w - - - 00 0");
        d.due("behind one man", d.x.attacked(0, 5, 0), 1);
        d.due("behind one man, an empty square", d.x.attacked(0, 4, 0), 1);
        d.due("behind two men", d.x.attacked(0, 7, 0), 1);
        d.due("no man ahead", d.x.attacked(0, 8, 0), 0);
        d.due("over a man of the other side", d.x.attacked(0, 19, 0), 1);
        d.due("over two men", d.x.attacked(0, 35, 0), 0);
        d.due("from the first rank", d.x.attacked(0, 17, 0), 1);
        d.due("not by to", d.x.attacked(0, 9, 0), 0);
        d.due("BLACK's other ranks", d.x.attacked(0, 14, 1), 0);
        Check e = new Check("two ways to a square", "board 5 5; man a to 0 2, on 0 1 ride 2;");
        e.position("5/5/5/a4/A4 w - - - 00 0");
        e.due("the one without to is shut", e.x.attacked(0, 10, 0), 0);
        e.due("the one without to is open", e.x.attacked(0, 2, 0), 1);
    }
}
