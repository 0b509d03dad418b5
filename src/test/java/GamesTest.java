/** Promises 22 to 30: games, THE BOOK, and what a side SEES. */
public final class GamesTest {
    public static void main(String[] args) {
        aGame();
        refused();
        repeated();
        theClock();
        longest();
        theBook();
        theBookAndPass();
        sees();
        views();
        Check.finish();
    }

    private static void play(Check c, int g, String... moves) {
        for (String m : moves) {
            int p = c.x.now(g);
            int i = c.hear(p, m);
            c.due("add " + m, c.x.add(g, i), c.x.game(g, 0));
            c.x.drop(p);
        }
    }

    private static void aGame() {
        Check c = new Check("a game");
        c.position(Check.START);
        c.due("start", c.x.start(7, 0), 0);
        c.due("moves", c.x.game(7, 0), 0);
        c.due("drop", c.x.drop(0), 1);
        c.due("add e4", c.x.add(7, 13), 1);
        c.due("add e5", c.x.add(7, 8), 2);
        c.due("add Nc3", c.x.add(7, 1), 3);
        c.due("played(7, 0)", c.x.played(7, 0), 13);
        c.due("played(7, 1)", c.x.played(7, 1), 8);
        c.due("played(7, 2)", c.x.played(7, 2), 1);
        c.due("played(7, 3)", c.x.played(7, 3), Check.UNKNOWN);
        c.due("played(7, -1)", c.x.played(7, -1), Check.UNKNOWN);
        c.due("now", c.x.now(7), 0);
        c.due("written", c.written(0), "rnbqkbnr/pppp1ppp/8/4p3/4P3/2N5/PPPP1PPP/R1BQKBNR b a1h1a8h8 - - 00 1");
        c.due("back", c.x.back(7), 2);
        c.due("played(7, 2)", c.x.played(7, 2), Check.UNKNOWN);
        c.due("now", c.written(c.x.now(7)), "rnbqkbnr/pppp1ppp/8/4p3/4P3/8/PPPP1PPP/RNBQKBNR w a1h1a8h8 e5e6 - 00 0");
        c.due("back", c.x.back(7), 1);
        c.due("back", c.x.back(7), 0);
        c.due("back", c.x.back(7), Check.STATE);
        c.due("now", c.written(c.x.now(7)), Check.START);
        c.due("start anew", c.x.start(7, 0), 0);
        c.due("now", c.x.figure(c.x.now(7), 0), 1);
        c.due("a move of BLACK", c.x.add(7, 0), 1);
        c.due("start anew", c.x.start(7, 0), 0);
        c.due("without moves", c.x.game(7, 0), 0);
        c.due("without moves", c.x.played(7, 0), Check.UNKNOWN);
        int p = c.position("6k1/5ppp/8/8/8/8/8/K2R4 w - - - 00 0");
        c.x.start(0, p);
        c.due("not ended", c.x.game(0, 3), 0);
        play(c, 0, "Rd8");
        c.due("ended", c.x.game(0, 3), 5);
        c.due("no move more", c.x.add(0, 0), Check.UNKNOWN);
    }

    private static void refused() {
        Check c = new Check("games refused");
        c.position(Check.START);
        c.due("start(8, 0)", c.x.start(8, 0), Check.OUTSIDE);
        c.due("start(-1, 9)", c.x.start(-1, 9), Check.OUTSIDE);
        c.due("start(0, 1)", c.x.start(0, 1), Check.UNKNOWN);
        c.due("add(8, 0)", c.x.add(8, 0), Check.OUTSIDE);
        c.due("add(0, 0)", c.x.add(0, 0), Check.UNKNOWN);
        c.due("back(8)", c.x.back(8), Check.OUTSIDE);
        c.due("back(0)", c.x.back(0), Check.UNKNOWN);
        c.due("game(-1, 0)", c.x.game(-1, 0), Check.OUTSIDE);
        c.due("game(0, 4)", c.x.game(0, 4), Check.OUTSIDE);
        c.due("game(0, -1)", c.x.game(0, -1), Check.OUTSIDE);
        c.due("game(0, 0)", c.x.game(0, 0), Check.UNKNOWN);
        c.due("played(8, 0)", c.x.played(8, 0), Check.OUTSIDE);
        c.due("played(0, 0)", c.x.played(0, 0), Check.UNKNOWN);
        c.due("now(8)", c.x.now(8), Check.OUTSIDE);
        c.due("now(0)", c.x.now(0), Check.UNKNOWN);
        c.x.start(0, 0);
        c.due("add(0, 20)", c.x.add(0, 20), Check.UNKNOWN);
        c.due("add(0, -1)", c.x.add(0, -1), Check.UNKNOWN);
        c.due("played(0, 0)", c.x.played(0, 0), Check.UNKNOWN);
        for (int i = 1; i < 60; i++) c.due("now", c.x.now(0), i);
        c.due("no room", c.x.now(0), Check.ROOM);
    }

    private static void repeated() {
        Check c = new Check("repeated");
        c.position(Check.START);
        c.x.start(0, 0);
        c.due("once", c.x.game(0, 1), 1);
        play(c, 0, "Nf3", "Nf6", "Ng1", "Ng8");
        c.due("twice", c.x.game(0, 1), 2);
        c.due("not yet", c.x.game(0, 2), 0);
        play(c, 0, "Nf3", "Nf6", "Ng1");
        c.due("twice", c.x.game(0, 1), 2);
        play(c, 0, "Ng8");
        c.due("three times", c.x.game(0, 1), 3);
        c.due("now", c.x.game(0, 2), 1);
        c.due("book", c.x.book(0, Check.NONE), 3);
        c.due("book of Nf3", c.x.book(0, c.hear(0, "Nf3")), 2);
        play(c, 0, "Nf3", "Nf6", "Rg1", "Rg8", "Rh1", "Rh8");
        c.due("other rights", c.x.game(0, 1), 1);
    }

    private static void theClock() {
        Check c = new Check("the clock");
        c.position("4k3/8/8/8/8/8/8/R3K3 w - - - 00 98");
        c.x.start(1, 0);
        play(c, 1, "Ra2");
        c.due("99", c.x.game(1, 2), 0);
        play(c, 1, "Kd7");
        c.due("100", c.x.game(1, 2), 1);
        c.due("but alone", c.x.game(1, 1), 1);
    }

    private static void longest() {
        Check c = new Check("the longest game");
        c.position("7k/8/8/8/8/8/8/K7 w - - - 00 0");
        c.x.start(2, 0);
        for (int i = 1; i <= 300; i++) c.due("add", c.x.add(2, 0), i);
        c.due("no such move", c.x.add(2, 99), Check.UNKNOWN);
        c.due("no room", c.x.add(2, 0), Check.ROOM);
        c.due("moves", c.x.game(2, 0), 300);
        c.due("played(2, 299)", c.x.played(2, 299), 0);
        c.due("back", c.x.back(2), 299);
        c.due("add", c.x.add(2, 1), 300);
        c.due("played(2, 299)", c.x.played(2, 299), 1);
    }

    private static void theBook() {
        Check c = new Check("the book");
        c.position(Check.START);
        c.due("empty", c.x.book(0, Check.NONE), 0);
        for (int g = 0; g < 4; g++) c.x.start(g, 0);
        play(c, 0, "e4", "e5");
        play(c, 1, "e4", "c5");
        play(c, 2, "d4");
        c.due("all", c.x.book(0, Check.NONE), 4);
        c.due("e4", c.x.book(0, 13), 2);
        c.due("d4", c.x.book(0, 11), 1);
        c.due("a3", c.x.book(0, 4), 0);
        c.due("20", c.x.book(0, 20), Check.UNKNOWN);
        c.due("-2", c.x.book(0, -2), Check.UNKNOWN);
        c.due("no position", c.x.book(5, Check.NONE), Check.UNKNOWN);
        int p = c.after(0, "e4");
        c.due("behind e4", c.x.book(p, Check.NONE), 2);
        c.due("e5", c.x.book(p, c.hear(p, "e5")), 1);
        c.due("e6", c.x.book(p, c.hear(p, "e6")), 0);
        c.due("the last ones, too", c.x.book(c.after(0, "d4"), Check.NONE), 1);
        c.x.back(1);
        c.x.back(1);
        c.due("taken back", c.x.book(p, Check.NONE), 1);
    }

    private static void theBookAndPass() {
        Check c = new Check("the book and pass");
        int p = c.position("4k3/8/8/8/3p4/8/4P3/4K3 w - - - 00 0");
        c.x.start(0, p);
        play(c, 0, "e4");
        int q = c.position("4k3/8/8/8/3pP3/8/8/4K3 b - - - 00 0");
        c.due("another PASS counts", c.x.book(q, Check.NONE), 0);
        c.due("the same PASS", c.x.book(c.x.now(0), Check.NONE), 1);
        int r = c.position("4k3/8/8/8/8/8/4P3/4K3 w - - - 00 0");
        c.x.start(1, r);
        play(c, 1, "e4");
        c.due("where none may take, it does not", c.x.book(c.position("4k3/8/8/8/4P3/8/8/4K3 b - - - 00 44"), Check.NONE), 1);
    }

    private static void sees() {
        Check c = new Check("sees");
        int p = c.position("4k3/8/8/3pP3/8/8/8/R3K3 w - d5d6 - 00 0");
        c.due("its own men", c.x.sees(p, 0, 36), 1);
        c.due("along a file", c.x.sees(p, 0, 56), 1);
        c.due("up to a man of its own", c.x.sees(p, 0, 3), 1);
        c.due("not behind it", c.x.sees(p, 0, 5), 1);
        c.due("not behind it", c.x.sees(p, 0, 6), 0);
        c.due("a pawn ahead", c.x.sees(p, 0, 44), 1);
        c.due("by catch", c.x.sees(p, 0, 43), 1);
        c.due("not to take on an empty square", c.x.sees(p, 0, 45), 0);
        c.due("BLACK's pawn ahead", c.x.sees(p, 1, 27), 1);
        c.due("BLACK's pawn does not take there", c.x.sees(p, 1, 28), 0);
        int q = c.position("4k3/8/8/8/3pP3/8/8/4K3 b - e4e3 - 00 0");
        c.due("by catch", c.x.sees(q, 1, 20), 1);
        c.due("catch is for the side to move alone", c.x.sees(q, 0, 20), 0);
        Check d = new Check("sees by catch", "board 5 5; man a to fore pass 0 1 ride 2; man c on catch 1 1;");
        int r = d.position("5/5/Ac3/5/1C3 b - a3a2 - 00 0");
        d.due("the side to move", d.x.sees(r, 1, 5), 1);
        d.due("the side not to move", d.x.sees(r, 0, 5), 0);
        c.due("square 64", c.x.sees(p, 0, 64), Check.OUTSIDE);
        c.due("side 2", c.x.sees(p, 2, 0), Check.OUTSIDE);
        c.due("side -1", c.x.sees(77, -1, 0), Check.OUTSIDE);
        c.due("no position", c.x.sees(77, 0, 0), Check.UNKNOWN);
        c.due("no legal move is asked for", c.x.sees(c.position("4k3/4r3/8/8/8/8/4B3/4K3 w - - - 00 0"), 0, 3), 1);
    }

    private static void views() {
        Check c = new Check("view");
        c.position(Check.START);
        c.due("WHITE", c.view(0, 0), "????????/????????/????????/????????/8/8/PPPPPPPP/RNBQKBNR");
        c.due("BLACK", c.view(0, 1), "rnbqkbnr/pppppppp/8/8/????????/????????/????????/????????");
        c.due("bytes", c.x.view(0, 0), 57);
        c.due("side 2", c.x.view(0, 2), Check.OUTSIDE);
        c.due("side -1", c.x.view(9, -1), Check.OUTSIDE);
        c.due("no position", c.x.view(9, 0), Check.UNKNOWN);
        int p = c.position("4k3/8/8/3p4/8/8/8/R3K3 w - - - 00 0");
        c.due("WHITE", c.view(p, 0), "1???????/1???????/1???????/1???????/1???????/1???????/1??3??/R3K1??");
        c.due("BLACK", c.view(p, 1), "???1k1??/???3??/????????/???p????/???1????/????????/????????/????????");
    }
}
