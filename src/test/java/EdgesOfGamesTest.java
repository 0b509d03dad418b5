/** Promises 20 to 30, and sections 4, 5 and 6, at their edges. */
public final class EdgesOfGamesTest {
    private static final int LEAST = Integer.MIN_VALUE, MOST = Integer.MAX_VALUE;
    private static final int[] NO_PLACES = {1, -1, 59, 60, LEAST, MOST};
    private static final int[] NO_GAMES = {-1, 8, LEAST, MOST};

    public static void main(String[] args) {
        squaresLeft();
        plainMan();
        castlingAndDrops();
        marks();
        say();
        hear();
        start();
        add();
        fullGame();
        back();
        game();
        gameAlike();
        played();
        now();
        allGames();
        book();
        bookMoves();
        sees();
        seesByCatch();
        view();
        Check.finish();
    }

    private static void texts(String about, String rules, String position, String want) {
        Check c = new Check(about, rules);
        c.due(position, c.texts(c.position(position)), want);
    }

    /** "if men of its kind from other squares have LEGAL moves to the same square: the letter [..] else the digit [..] else both" */
    private static void squaresLeft() {
        // Each man but the first one leads to b2 alone.
        String r = "board 3 3;man n fore 1 1 from 1,fore -1 1 from 1,fore 0 1 from 1,fore -1 -1 from 3,fore 1 -1 from 3,fore 0 -1 from 3,fore 1 0 from 2,fore -1 0 from 2;man i to fore 2 2 from 2;";
        texts("one man", r, "2i/3/N2 w - - - 00 0", "Na2 Nb2");
        texts("other files", r, "2i/3/N1N w - - - 00 0", "Na2 Nab2 Ncb2 Nc2");
        texts("the same file", r, "N1i/3/N2 w - - - 00 0", "N1a2 N1b2 N3a2 N3b2");
        texts("the same file, and the same rank", r, "N1i/3/N1N w - - - 00 0", "N1a2 Na1b2 Ncb2 Nc2 N3a2 N3b2");
        texts("all", r, "N1N/i2/N1N w - - - 00 0", "N1xa2# Na1b2 Nc1b2 N1c2 N3xa2# Na3b2 Nc3b2 N3c2");
        String pass = "board 3 5;man p to fore pass 0 1 ride 2;man c on fore catch 1 1,on fore catch -1 1;";
        texts("two that take by catch", pass, "3/3/cPc/3/3 b - b3b2 - 00 0", "Caxb2# Ccxb2#");
        texts("men of another kind do not count", "board 3 3;man a 1 1;man b 1 1;", "2a/3/A1B w - - - 00 0", "Ab2 Bb2");
        texts("men of the other side do not count", "board 3 3;man a 1 1;", "3/3/A1a w - - - 00 0", "Ab2");
        String k = "board 3 3;man k 0 1;man r 0 1 ride 2;man n 1 1;man i to fore 2 2 from 2;royal k;";
        texts("two whose moves are LEGAL", k, "2k/N1N/K2 w - - - 00 0", "Kb1 Nab1 Nab3 Ncb1 Ncb3");
        texts("a man whose move is not LEGAL does not count", k, "r1k/N1N/K2 w - - - 00 0", "Kb1 Nb1 Nb3");
    }

    /** "(of the PLAIN man, when it takes, the letter in any case, and the digit, too, if one of these stands on its file)" */
    private static void plainMan() {
        String r = "board 3 4;man p to fore 1 1,to fore -1 1,to fore 1 2,to fore -1 2,on fore 1 1,on fore -1 1,on fore 1 2,on fore -1 2;man q to fore 2 3;becomes p q;";
        texts("one that does not take", r, "2q/3/3/P2 w - - - 00 0", "b2 b3");
        texts("two files, not taking", r, "2q/3/3/P1P w - - - 00 0", "ab2 ab3 cb2 cb3");
        texts("one file, not taking", r, "2q/3/P2/P2 w - - - 00 0", "b2 1b3 2b3 b4=Q");
        texts("one file and one rank, not taking", r, "2q/3/P2/P1P w - - - 00 0", "ab2 a1b3 cb2 cb3 2b3 b4=Q");
        texts("one that takes", r, "2q/1q1/3/P2 w - - - 00 0", "b2 axb3");
        texts("two files, taking", r, "2q/1q1/3/P1P w - - - 00 0", "ab2 axb3 cb2 cxb3");
        texts("one file, taking", r, "2q/1q1/P2/P2 w - - - 00 0", "b2 a1xb3 a2xb3 b4=Q");
        texts("one file and one rank, taking", r, "2q/1q1/P2/P1P w - - - 00 0", "ab2 a1xb3 cb2 cxb3 a2xb3 b4=Q");
        texts("taking, becoming", r, "1qq/P2/3/3 w - - - 00 0", "axb4=Q");
        texts("taking, becoming, from one file", r, "1qq/P2/P2/3 w - - - 00 0", "b3 a2xb4=Q a3xb4=Q");
        String s = "board 3 3;man a fore 0 1,on fore 1 1;man b fore 0 1,on fore 1 1;man q to fore 2 2 from 2;becomes b q;becomes a q;";
        texts("of a second becomes no man is PLAIN", s, "1qq/AB1/3 w - - - 00 0", "Aa3=Q Axb3=Q bxb3=Q bxc3=Q");
    }

    private static void castlingAndDrops() {
        String r = "board 8 3;man k 0 1;man r 1 2;man p fore 0 1;man q 1 1;royal k;castle r;becomes p q;hand;";
        Check c = new Check("castling and drops", r);
        int p = c.position("r3k2r/8/4K3 b a3h3 - p 00 0");
        c.due("BLACK's greater file", c.written(c.after(p, "O-O")), "r4rk1/8/4K3 w - - p 00 1");
        c.due("BLACK's lesser file", c.written(c.after(p, "O-O-O")), "2kr3r/8/4K3 w - - p 00 1");
        c.due("a PLAIN man's drop has its letter", c.hear(p, "P@b2") >= 0 ? 1 : 0, 1);
        c.due("and not without", c.hear(p, "@b2"), Check.NONE);
        c.due("nor small", c.hear(p, "p@b2"), Check.NONE);
        c.due("zeros are no letters", c.hear(p, "0-0"), Check.NONE);
        c.due("no more than that", c.hear(p, "O-O-O-O"), Check.NONE);
        p = c.position("r3k2r/8/4K3 b - - p 00 0");
        c.due("no rights", c.hear(p, "O-O"), Check.NONE);
    }

    /** "# if the side that moved won by it, else + if the ROYAL man of the side to move then is ATTACKED" */
    private static void marks() {
        String k = "board 3 3;man k 0 1;man r 0 1 ride 2;royal k;";
        mark("a plain move", k, "k2/3/1KR w - - - 00 0", "Rc2", "");
        mark("a check", k, "k2/3/1KR w - - - 00 0", "Rc3", "+");
        mark("5", k, "k2/3/K1R w - - - 00 0", "Rc3", "#");
        mark("6, drawn", k, "k1K/3/1RR w - - - 00 0", "Rc2", "");
        mark("6, stale lost", k + "stale lost;", "k1K/3/1RR w - - - 00 0", "Rc2", "#");
        mark("6, stale won", k + "stale won;", "k1K/3/1RR w - - - 00 0", "Rc2", "");
        mark("2", k + "hill b1;", "2k/3/K2 w - - - 00 0", "Kb1", "#");
        mark("3", k + "checks 1;", "k2/3/1KR w - - - 00 0", "Rc3", "#");
        mark("3, one of two", k + "checks 2;", "k2/3/1KR w - - - 00 0", "Rc3", "+");
        mark("4", "board 3 3;man a 0 1;", "3/3/Aa1 w - - - 00 0", "Axb1", "#");
        mark("4, bare won", "board 3 3;man a 0 1;bare won;", "3/3/Aa1 w - - - 00 0", "Axb1", "");
        mark("1", "board 3 3;man k 0 1;man a 0 1;man i to fore 2 2 from 2;royal k;blast;", "ki1/1A1/K2 w - - - 00 0", "Axb3", "#");
        mark("a drop", k + "hand;", "k2/3/1K1 w - - R 00 0", "R@c3", "+");
        mark("castling", "board 8 3;man k 0 1;man r 0 1 ride 7;royal k;castle r;", "5k2/8/4K2R w h1 - - 00 0", "O-O", "+");
    }

    private static void mark(String about, String rules, String position, String move, String want) {
        Check c = new Check("mark of " + about, rules);
        int p = c.position(position);
        int i = c.hear(p, move);
        c.due(position + " " + move, c.said(p, i), move + want);
        c.due(position + " " + move + want, c.hear(p, move + want), i);
    }

    /** Promise 20: "The SHORT TEXT of LEGAL move i to THE OUT: how many bytes. UNKNOWN." */
    private static void say() {
        Check c = new Check("promise 20", "board 3 3;man a 0 1;");
        c.position("2a/3/A2 w - - - 00 0");
        c.x.write(0);
        for (int i : new int[] {2, -1, LEAST, MOST}) c.due("say(0, " + i + ")", c.x.say(0, i), Check.UNKNOWN);
        for (int p : NO_PLACES) c.due("say(" + p + ", 0)", c.x.say(p, 0), Check.UNKNOWN);
        c.due("THE OUT stays", c.out(), "2a/3/A2 w - - - 00 0");
        c.due("say", c.x.say(0, 1), 3);
        c.due("THE OUT", c.out(), "Aa2");
    }

    /** Promise 21: "Which LEGAL move's SHORT TEXT THE TAPE is (a + or # at its end may be left out); NONE. UNKNOWN." */
    private static void hear() {
        Check c = new Check("promise 21", "board 8 8;man k 0 1,1 1;man r 0 1 ride 7;royal k;");
        int p = c.position("k7/8/1K6/8/8/8/8/1R5R w - - - 00 0");
        int mate = c.hear(p, "Rh8#"), check = c.hear(p, "Ra1+"), plain = c.hear(p, "Rh2");
        c.due("all are there", mate >= 0 && check >= 0 && plain >= 0 ? 1 : 0, 1);
        c.due("# left out", c.hear(p, "Rh8"), mate);
        c.due("+ left out", c.hear(p, "Ra1"), check);
        for (String t : new String[] {"Rh8+", "Rh8##", "Rh8#+", "Ra1#", "Ra1++", "Rh2+", "Rh2#", "", " ", "#", "+", "R", "Rh", "rh8#", "Rh8# ", " Rh8#", "Rh8#\n", "RH8#", "Rh9", "Rxh8#", "Rhh8#", "h8#",
            "Rh8=Q", "O-O", "R@h3", "Rh8\0", "Rh2Rh2", "x".repeat(1200)}) c.due("hear '" + t + "'", c.hear(p, t), Check.NONE);
        for (int q : NO_PLACES) c.due("hear(" + q + ")", c.hear(q, "Rh8#"), Check.UNKNOWN);
        Check d = new Check("promise 21, ended", "board 3 3;man a 0 1;");
        d.due("no move", d.hear(d.position("3/3/A2 w - - - 00 0"), "Ab1"), Check.NONE);
        Check f = new Check("moves of another position are not heard", Check.CHESS);
        int many = f.position(Check.START), few = f.position("k7/8/8/8/8/8/8/K7 w - - - 00 0");
        f.due("many", f.x.moves(many), 20);
        f.due("the move that would be next", f.hear(few, "Nh3"), Check.NONE);
        f.due("a later one", f.hear(few, "h4"), Check.NONE);
        Check e = new Check("every text is heard as its move", Check.CHESS);
        p = e.position("r3k2r/p1ppqpb1/bn2pnp1/3PN3/1p2P3/2N2Q1p/PPPBBPPP/R3K2R w a1h1a8h8 - - 00 0");
        for (int i = 0; i < 48; i++) e.due("move " + i, e.hear(p, e.said(p, i)), i);
    }

    /** Promise 22: "Game g is the position, without moves (in place of what it was): 0. OUTSIDE, UNKNOWN." */
    private static void start() {
        Check c = new Check("promise 22", "board 3 3;man a 0 1;");
        c.position("2a/3/A2 w - - - 00 0");
        for (int g : NO_GAMES) {
            c.due("start(" + g + ", 0)", c.x.start(g, 0), Check.OUTSIDE);
            c.due("start(" + g + ", 1)", c.x.start(g, 1), Check.OUTSIDE);
        }
        for (int p : NO_PLACES) c.due("start(0, " + p + ")", c.x.start(0, p), Check.UNKNOWN);
        c.due("no game came", c.x.game(0, 0), Check.UNKNOWN);
        for (int g : new int[] {0, 7}) c.due("start(" + g + ", 0)", c.x.start(g, 0), 0);
        c.x.add(0, 0);
        c.due("a refusal leaves the game", c.x.start(0, 1), Check.UNKNOWN);
        c.due("a refusal leaves the game", c.x.game(0, 0), 1);
        c.due("in place of what it was", c.x.start(0, 0), 0);
        c.due("without moves", c.x.game(0, 0), 0);
        c.due("an ended one", c.x.start(1, c.position("3/3/A2 w - - - 00 0")), 0);
        c.due("an ended one", c.x.game(1, 3), 4);
        c.due("has no moves", c.x.add(1, 0), Check.UNKNOWN);
    }

    /** Promise 23: "how many moves. OUTSIDE, UNKNOWN (no such game, move), ROOM: it has 300." */
    private static void add() {
        Check c = new Check("promise 23", "board 3 3;man a to 0 1;");
        c.position("2a/3/A2 w - - - 00 0");
        for (int g : NO_GAMES) c.due("add(" + g + ", 0)", c.x.add(g, 0), Check.OUTSIDE);
        for (int g = 0; g < 8; g++) c.due("no such game", c.x.add(g, 0), Check.UNKNOWN);
        c.x.start(5, 0);
        for (int i : new int[] {2, -1, LEAST, MOST}) c.due("add(5, " + i + ")", c.x.add(5, i), Check.UNKNOWN);
        c.due("nothing was added", c.x.game(5, 0), 0);
        for (int n = 1; n <= 300; n++) c.due("add", c.x.add(5, 0), n);
        c.due("no such move is told first", c.x.add(5, MOST), Check.UNKNOWN);
        c.due("full", c.x.add(5, 0), Check.ROOM);
        c.due("nothing was added", c.x.game(5, 0), 300);
        c.due("the last one", c.x.played(5, 299), 0);
        c.due("one goes", c.x.back(5), 299);
        c.due("another comes", c.x.add(5, 1), 300);
        c.due("full again", c.x.add(5, 0), Check.ROOM);
        c.due("start makes it empty", c.x.start(5, 0), 0);
        c.due("add", c.x.add(5, 0), 1);
    }

    /** A full game leaves its neighbours as they are, and they leave it. */
    private static void fullGame() {
        Check c = new Check("a full game and its neighbours", "board 3 3;man a to 0 1;");
        String[] t = {"2a/3/A2 w - - - 00 0", "a2/3/2A b - - - 00 0"};
        c.position(t[0]);
        c.position(t[1]);
        c.x.start(3, 1);
        c.x.start(5, 1);
        c.x.start(4, 0);
        for (int n = 1; n <= 300; n++) c.due("add", c.x.add(4, 0), n);
        for (int g : new int[] {3, 5}) {
            c.due("no moves", c.x.game(g, 0), 0);
            c.due("its own position", c.written(c.x.now(g)), t[1]);
        }
        String last = c.written(c.x.now(4));
        int first = c.x.played(4, 0);
        c.x.start(3, 1);
        c.x.start(5, 1);
        c.x.add(5, 1);
        c.x.add(5, 1);
        c.due("the last position stays", c.written(c.x.now(4)), last);
        c.due("the last move stays", c.x.played(4, 299), 0);
        c.due("the first move stays", c.x.played(4, 0), first);
        for (int n = 299; n >= 298; n--) c.due("back", c.x.back(4), n);
        c.due("two moves before it is the same side's turn", c.x.figure(c.x.now(4), 0), 0);
    }

    /** Promise 24: "how many are left. OUTSIDE, UNKNOWN, STATE: it has none." */
    private static void back() {
        Check c = new Check("promise 24", "board 3 3;man a 0 1;");
        c.position("2a/3/A2 w - - - 00 0");
        for (int g : NO_GAMES) c.due("back(" + g + ")", c.x.back(g), Check.OUTSIDE);
        for (int g = 0; g < 8; g++) c.due("no such game", c.x.back(g), Check.UNKNOWN);
        c.x.start(0, 0);
        c.due("it has none", c.x.back(0), Check.STATE);
        c.x.add(0, 0);
        c.x.add(0, 0);
        c.due("back", c.x.back(0), 1);
        c.due("back", c.x.back(0), 0);
        c.due("it has none", c.x.back(0), Check.STATE);
        c.due("the position is the first one", c.written(c.x.now(0)), "2a/3/A2 w - - - 00 0");
    }

    /** Promise 25: "what = 0 its moves, [..] 3 by which its last position has ENDED (0). OUTSIDE, UNKNOWN." */
    private static void game() {
        Check c = new Check("promise 25", "board 3 3;man a 0 1;");
        c.position("2a/3/A2 w - - - 00 99");
        for (int g : NO_GAMES) for (int what = -1; what <= 4; what++) c.due("game(" + g + ", " + what + ")", c.x.game(g, what), Check.OUTSIDE);
        for (int what : new int[] {-1, 4, LEAST, MOST}) c.due("game(0, " + what + ")", c.x.game(0, what), Check.OUTSIDE);
        for (int what = 0; what <= 3; what++) c.due("no such game", c.x.game(7, what), Check.UNKNOWN);
        c.x.start(0, 0);
        for (int what : new int[] {-1, 4, LEAST, MOST}) c.due("game(0, " + what + ")", c.x.game(0, what), Check.OUTSIDE);
        int[] want = {0, 1, 0, 0};
        for (int what = 0; what <= 3; what++) c.due("without moves, the CLOCK 99", c.x.game(0, what), want[what]);
        c.x.add(0, 0);
        want = new int[] {1, 1, 1, 0};
        for (int what = 0; what <= 3; what++) c.due("the CLOCK 100", c.x.game(0, what), want[what]);
        c.x.start(1, c.position("2a/3/A2 w - - - 00 200"));
        c.due("the CLOCK 200", c.x.game(1, 2), 1);
        c.x.add(1, 0);
        c.due("still", c.x.game(1, 2), 1);
    }

    /** "how many of its positions are SAME as the last one (that, too), 2 1 if these are 3 or more" */
    private static void gameAlike() {
        Check c = new Check("promise 25, alike", "board 3 3;man a 0 1;");
        c.x.start(0, c.position("2a/3/A2 w - - - 00 0"));
        // Four moves lead back: a1 b1, c3 b3, b1 a1, b3 c3.
        int[][] there = {{0, 1}, {2, 1}, {1, 0}, {1, 2}};
        int n = 0;
        for (int round = 1; round <= 4; round++) {
            for (int[] files : there) {
                int p = c.x.now(0);
                int t = n % 2 == 0 ? files[1] : 6 + files[1];
                int i = 0;
                while (c.x.move(p, i, 1) != t) i++;
                n++;
                c.due("add", c.x.add(0, i), n);
                c.x.drop(p);
            }
            c.due("alike behind " + n, c.x.game(0, 1), round + 1);
            c.due("three or more", c.x.game(0, 2), round >= 2 ? 1 : 0);
        }
        c.x.back(0);
        c.due("one fewer", c.x.game(0, 1), 4);
        // Other games do not count.
        Check d = new Check("promise 25, other games", "board 3 3;man a 0 1;");
        d.position("2a/3/A2 w - - - 00 0");
        for (int g = 0; g < 8; g++) d.x.start(g, 0);
        d.due("alone", d.x.game(3, 1), 1);
        d.due("THE BOOK has all", d.x.book(0, Check.NONE), 8);
    }

    /** Promise 26: "OUTSIDE (g), UNKNOWN (k, too)." */
    private static void played() {
        Check c = new Check("promise 26", "board 3 3;man a 0 1;");
        c.position("2a/3/A2 w - - - 00 0");
        for (int g : NO_GAMES) for (int k : new int[] {0, -1}) c.due("played(" + g + ", " + k + ")", c.x.played(g, k), Check.OUTSIDE);
        for (int g = 0; g < 8; g++) for (int k : new int[] {0, -1, MOST}) c.due("no such game", c.x.played(g, k), Check.UNKNOWN);
        c.x.start(0, 0);
        c.due("no moves", c.x.played(0, 0), Check.UNKNOWN);
        c.x.add(0, 1);
        c.x.add(0, 0);
        c.due("move 0", c.x.played(0, 0), 1);
        c.due("move 1", c.x.played(0, 1), 0);
        for (int k : new int[] {2, -1, 300, LEAST, MOST}) c.due("played(0, " + k + ")", c.x.played(0, k), Check.UNKNOWN);
        c.x.back(0);
        c.due("it went", c.x.played(0, 1), Check.UNKNOWN);
    }

    /** Promise 27: "its place, the least free one. OUTSIDE, UNKNOWN, ROOM." */
    private static void now() {
        Check c = new Check("promise 27", "board 3 3;man a 0 1;");
        c.position("2a/3/A2 w - - - 00 0");
        for (int g : NO_GAMES) c.due("now(" + g + ")", c.x.now(g), Check.OUTSIDE);
        for (int g = 0; g < 8; g++) c.due("no such game", c.x.now(g), Check.UNKNOWN);
        c.x.start(0, 0);
        for (int i = 1; i < 60; i++) c.due("now", c.x.now(0), i);
        c.due("full", c.x.now(0), Check.ROOM);
        c.due("OUTSIDE is told first", c.x.now(8), Check.OUTSIDE);
        c.due("UNKNOWN is told first", c.x.now(1), Check.UNKNOWN);
        c.due("start asks for no place", c.x.start(1, 59), 0);
        c.due("nor does add", c.x.add(1, 0), 1);
        c.x.drop(33);
        c.due("the least free one", c.x.now(1), 33);
        c.due("its own", c.written(33), "2a/3/1A1 b - - - 00 1");
        c.x.drop(33);
        c.due("a dropped one leaves the game", c.x.game(1, 0), 1);
    }

    /** Eight games at once, each with its own moves. */
    private static void allGames() {
        Check c = new Check("eight games", "board 3 8;man a fore 0 1;");
        for (int g = 0; g < 8; g++) {
            c.x.start(g, c.position("2a/3/3/3/3/3/3/A2 w - - - 00 " + g));
            for (int i = 0; i < g; i++) c.due("add", c.x.add(g, 0), i + 1);
        }
        for (int g = 0; g < 8; g++) {
            c.due("moves of " + g, c.x.game(g, 0), g);
            c.due("clock of " + g, c.x.figure(c.x.now(g), 1), 2 * g);
        }
    }

    /** Promise 28, and "THE BOOK are all positions of all games, the first and the last, too." */
    private static void book() {
        Check c = new Check("promise 28", "board 3 3;man a 0 1;");
        c.position("2a/3/A2 w - - - 00 0");
        for (int p : NO_PLACES) for (int i : new int[] {Check.NONE, 0, 99}) c.due("book(" + p + ", " + i + ")", c.x.book(p, i), Check.UNKNOWN);
        for (int i : new int[] {-2, 2, LEAST, MOST}) c.due("book(0, " + i + ")", c.x.book(0, i), Check.UNKNOWN);
        c.due("THE BOOK is empty", c.x.book(0, Check.NONE), 0);
        c.due("THE BOOK is empty", c.x.book(0, 1), 0);
        c.x.start(0, 0);
        c.due("the first one, which is the last one", c.x.book(0, Check.NONE), 1);
        c.due("no move was made next", c.x.book(0, 0), 0);
        c.x.add(0, 1);
        int last = c.x.now(0);
        c.due("the first one", c.x.book(0, Check.NONE), 1);
        c.due("the last one", c.x.book(last, Check.NONE), 1);
        c.due("move 1 was made", c.x.book(0, 1), 1);
        c.due("move 0 was not", c.x.book(0, 0), 0);
        c.x.start(7, 0);
        c.x.add(7, 0);
        c.due("of two games", c.x.book(0, Check.NONE), 2);
        c.due("one of them", c.x.book(0, 0), 1);
        c.x.start(0, last);
        c.due("the game before is no more", c.x.book(0, Check.NONE), 1);
        c.due("nor its move", c.x.book(0, 1), 0);
        c.due("an ended position", c.x.book(c.position("3/3/A2 w - - - 00 0"), Check.NONE), 0);
        c.due("it has no LEGAL move 0", c.x.book(c.position("3/3/A2 w - - - 00 0"), 0), Check.UNKNOWN);
    }

    private static void bookMoves() {
        Check c = new Check("promise 28, moves", "board 3 3;man a 0 1;");
        c.position("2a/3/A2 w - - - 00 0");
        for (int g = 0; g < 8; g++) {
            c.x.start(g, 0);
            c.x.add(g, g % 2);
        }
        c.due("positions", c.x.book(0, Check.NONE), 8);
        c.due("move 0", c.x.book(0, 0), 4);
        c.due("move 1", c.x.book(0, 1), 4);
        c.x.back(0);
        c.due("taken back: the position stays", c.x.book(0, Check.NONE), 8);
        c.due("taken back: the move does not", c.x.book(0, 0), 3);
        c.due("another CLOCK is SAME", c.x.book(c.position("2a/3/A2 w - - - 00 77"), 0), 3);
        c.due("another SIDE is not", c.x.book(c.position("2a/3/A2 b - - - 00 0"), Check.NONE), 0);
    }

    /** Promise 29, and "A side SEES the squares of its men, and those to which STEPS lead these" */
    private static void sees() {
        Check c = new Check("promise 29", "board 3 3;man a 0 1;");
        c.position("2a/3/A2 w - - - 00 0");
        for (int s : new int[] {-1, 9, LEAST, MOST}) for (int p : new int[] {0, 7}) c.due("square " + s, c.x.sees(p, 0, s), Check.OUTSIDE);
        for (int side : new int[] {-1, 2, LEAST, MOST}) for (int p : new int[] {0, 7}) c.due("side " + side, c.x.sees(p, side, 0), Check.OUTSIDE);
        for (int p : NO_PLACES) c.due("position " + p, c.x.sees(p, 0, 0), Check.UNKNOWN);
        int[] white = {1, 1, 0, 1, 0, 0, 0, 0, 0}, black = {0, 0, 0, 0, 0, 1, 0, 1, 1};
        for (int s = 0; s < 9; s++) {
            c.due("WHITE " + s, c.x.sees(0, 0, s), white[s]);
            c.due("BLACK " + s, c.x.sees(0, 1, s), black[s]);
        }
        c.position("3/3/A2 b - - - 00 0");
        for (int s = 0; s < 9; s++) c.due("a side without men", c.x.sees(1, 1, s), 0);
        for (int s = 0; s < 9; s++) c.due("though it has ended", c.x.sees(1, 0, s), white[s]);
        Check d = new Check("sees, to and on", "board 3 3;man t to fore 0 1;man o on fore 0 1;man k 0 1;royal k;castle t;hand;");
        d.position("k2/to1/TO1 w - - TTO 00 0");
        d.due("with to no man", d.x.sees(0, 0, 3), 0);
        d.due("with on a man", d.x.sees(0, 0, 4), 1);
        d.due("no drops", d.x.sees(0, 0, 8), 0);
        d.position("k2/3/TO1 w - - - 00 0");
        d.due("with to an empty square", d.x.sees(1, 0, 3), 1);
        d.due("with on no empty square", d.x.sees(1, 0, 4), 0);
        Check e = new Check("sees, no castling", "board 8 3;man k 0 1;man r 1 2;royal k;castle r;");
        e.position("3k4/8/4K2R w h1 - - 00 0");
        e.due("castling leads there", e.hear(0, "O-O") >= 0 ? 1 : 0, 1);
        e.due("but it is no STEP", e.x.sees(0, 0, 6), 0);
        Check f = new Check("sees, LEGAL or not", "board 3 3;man k 0 1;man r 0 1 ride 2;royal k;must;shy;");
        f.position("r1k/R2/K2 w - - - 00 0");
        f.due("a man that shuts a line", f.x.sees(0, 0, 5), 1);
        f.due("a square beside the king that is attacked", f.x.sees(f.position("1rk/3/K2 w - - - 00 0"), 0, 1), 1);
    }

    /** "(catch for the side to move alone; LEGAL or not)" */
    private static void seesByCatch() {
        Check c = new Check("sees by catch", "board 5 5;man p to fore pass 0 1 ride 3;man c on catch 1 1;man k 0 1;royal k;");
        int p = c.position("5/5/cP2k/5/2C1K b - b3b2 - 00 0");
        c.due("a square gone over", c.x.sees(p, 1, 6), 1);
        c.due("not by the other side", c.x.sees(p, 0, 6), 0);
        c.due("no other empty square", c.x.sees(p, 1, 16), 0);
        p = c.position("5/1c3/P3k/5/1C2K b - a3a2 - 00 0");
        c.due("the man itself, by on", c.x.sees(p, 1, 10), 1);
        c.due("not by the side that went by", c.x.sees(p, 0, 5), 0);
    }

    /** Promise 30: "a ? for each square that a side does not SEE [..] OUTSIDE (side), UNKNOWN." */
    private static void view() {
        Check c = new Check("promise 30", "board 3 3;man a 0 1;");
        c.position("2a/3/A2 w - - - 00 0");
        for (int side : new int[] {-1, 2, LEAST, MOST}) for (int p : new int[] {0, 7}) c.due("side " + side, c.x.view(p, side), Check.OUTSIDE);
        for (int p : NO_PLACES) c.due("position " + p, c.x.view(p, 0), Check.UNKNOWN);
        c.due("a refusal writes nothing", c.x.told(6), 0);
        c.due("WHITE", c.view(0, 0), "???/1??/A1?");
        c.due("BLACK", c.view(0, 1), "?1a/??1/???");
        c.position("3/3/A2 w - - - 00 0");
        c.due("nothing is seen", c.view(1, 1), "???/???/???");
        c.due("bytes", c.x.told(6), 11);
        Check d = new Check("all is seen", "board 8 8;man q 0 1 ride 7,1 1 ride 7;");
        d.position("8/8/8/8/8/8/7q/QQQQQQQQ b - - - 00 0");
        d.due("as it is written", d.view(0, 0), "8/8/8/8/8/8/7q/QQQQQQQQ");
        Check e = new Check("a full board", "board 8 8;man i to fore 7 7;");
        e.position("iiiiiiii/".repeat(7) + "iiiiiiii w - - - 00 0");
        e.due("71 bytes", e.x.view(0, 0), 71);
        e.due("all hidden", e.out(), "????????/".repeat(7) + "????????");
        e.due("all seen", e.view(0, 1), "iiiiiiii/".repeat(7) + "iiiiiiii");
    }
}
