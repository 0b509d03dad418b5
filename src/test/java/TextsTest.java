/** Promises 20 and 21: SHORT TEXTS said and heard. */
public final class TextsTest {
    public static void main(String[] args) {
        squaresLeft();
        plainMan();
        marks();
        hearing();
        Check.finish();
    }

    private static void squaresLeft() {
        Check c = new Check("the square left");
        int p = c.position("4k3/8/8/8/8/8/6K1/R6R w - - - 00 0");
        c.due("by file", c.hear(p, "Rad1"), c.hear(p, "Rac1") + 1);
        c.due("by file", c.said(p, c.hear(p, "Rhd1")), "Rhd1");
        c.due("not without", c.hear(p, "Rd1"), Check.NONE);
        c.due("not both", c.hear(p, "Ra1d1"), Check.NONE);
        c.due("none where one alone goes", c.hear(p, "Ra2") >= 0 ? 1 : 0, 1);
        p = c.position("R7/8/8/7k/8/8/6K1/R7 w - - - 00 0");
        c.due("by rank", c.said(p, c.hear(p, "R1a4")), "R1a4");
        c.due("by rank", c.said(p, c.hear(p, "R8a4")), "R8a4");
        p = c.position("8/8/8/7k/8/Q7/6K1/Q1Q5 w - - - 00 0");
        c.due("by both", c.hear(p, "Qa1b2") >= 0 ? 1 : 0, 1);
        c.due("by rank", c.hear(p, "Q3b2") >= 0 ? 1 : 0, 1);
        c.due("by file", c.hear(p, "Qcb2") >= 0 ? 1 : 0, 1);
        p = c.position("4k3/8/8/8/8/2n5/8/N3K1N1 w - - - 00 0");
        c.due("two kinds of ways", c.texts(p), "Nc2 Nb3 Kf1 Kd2 Kf2 Ne2 Nf3 Nh3");
        p = c.position("4k3/8/8/8/1b6/8/3N4/4K1N1 w - - - 00 0");
        c.due("a bound man does not count", c.hear(p, "Nf3") >= 0 ? 1 : 0, 1);
        c.due("others' men do not count", c.hear(c.position("4k3/8/8/n7/8/8/8/N3K3 w - - - 00 0"), "Nb3") >= 0 ? 1 : 0, 1);
        c.due("taking", c.said(c.position("4k3/8/8/8/8/1p6/8/N1N1K3 w - - - 00 0"), 0), "Nc2");
        p = c.position("4k3/8/8/8/8/1p6/8/N1N1K3 w - - - 00 0");
        c.due("taking", c.said(p, 1), "Naxb3");
    }

    private static void plainMan() {
        Check c = new Check("the plain man");
        int p = c.position("1n2k3/P7/8/3p4/2P1P3/8/8/4K3 w - - - 00 0");
        c.due("texts", c.texts(p), "Kd1 Kf1 Kd2 Ke2 Kf2 c5 cxd5 exd5 e5 a8=Q a8=R a8=B a8=N axb8=Q+ axb8=R+ axb8=B axb8=N");
        Check d = new Check("plain men on one file", "board 4 4; man p to fore 0 1, to fore 0 2, on fore 1 1, on fore 1 2; man q 0 1;"
            + " becomes p q;");
        p = d.position("3q/1q2/P3/P3 w - - - 00 0");
        d.due("texts", d.texts(p), "1a3 a1xb3 2a3 a2xb3 a4=Q");
        Check e = new Check("a second man that becomes others", "board 4 4; man a fore 0 1; man b fore 0 1; man q 0 1; becomes b q; becomes a q;");
        p = e.position("q3/4/AB2/4 w - - - 00 0");
        e.due("plain", e.x.told(4), 1);
        e.due("texts", e.texts(p), "Aa3 b3");
        Check g = new Check("no plain man", "board 4 4; man p fore 0 1, on fore 1 1;");
        g.due("texts", g.texts(g.position("4/4/1p2/P3 w - - - 00 0")), "Pa2 Pxb2#");
    }

    private static void marks() {
        Check c = new Check("marks");
        c.due("mate", c.hear(c.position("6k1/5ppp/8/8/8/8/8/K2R4 w - - - 00 0"), "Rd8#") >= 0 ? 1 : 0, 1);
        c.due("check", c.said(0, c.hear(0, "Rd8")), "Rd8#");
        c.due("castling", c.hear(c.position("5k2/8/8/8/8/8/8/4K2R w h1 - - 00 0"), "O-O+") >= 0 ? 1 : 0, 1);
        c.due("stalemate has none", c.hear(c.position("7k/8/6K1/8/8/8/8/5Q2 w - - - 00 0"), "Qf7") >= 0 ? 1 : 0, 1);
        c.due("stalemate has none", c.said(2, c.hear(2, "Qf7")), "Qf7");
        Check d = new Check("marks with stale lost", Check.CHESS + "stale lost; hand; hill e5; checks 3; bare won;");
        d.due("stale lost", d.said(d.position("7k/8/6K1/8/8/8/8/5Q2 w - - - 00 0"), d.hear(0, "Qf7")), "Qf7#");
        d.due("a drop", d.said(d.position("6k1/5ppp/8/8/8/8/8/K7 w - - RP 00 0"), d.hear(1, "R@d8")), "R@d8#");
        d.due("a pawn's drop", d.said(1, d.hear(1, "P@d4")), "P@d4");
        d.due("the hill", d.said(d.position("6k1/5ppp/8/8/3K4/8/8/8 w - - - 00 0"), d.hear(2, "Ke5")), "Ke5#");
        d.due("the third check", d.said(d.position("k7/7p/8/8/8/8/8/K6R w - - - 20 0"), d.hear(3, "Rf1")), "Rf1");
        d.due("the third check", d.said(3, d.hear(3, "Rc1")), "Rc1");
        d.due("the third check", d.said(d.position("k7/7p/8/8/8/8/1R6/K7 w - - - 20 0"), d.hear(4, "Ra2")), "Ra2#");
        d.due("the second check", d.said(d.position("k7/7p/8/8/8/8/1R6/7K w - - - 10 0"), d.hear(5, "Ra2")), "Ra2+");
        Check e = new Check("marks with bare won", "board 3 3; man a 0 1; bare won; ");
        e.due("the other side won", e.said(e.position("3/1a1/1A1 w - - - 00 0"), e.hear(0, "Axb2")), "Axb2");
        Check g = new Check("marks with blast", Check.CHESS + "blast;");
        g.due("the king goes away", g.said(g.position("4k3/4p3/8/8/8/8/8/K3Q3 w - - - 00 0"), g.hear(0, "Qxe7")), "Qxe7#");
    }

    private static void hearing() {
        Check c = new Check("hear");
        int p = c.position(Check.START);
        c.due("e4", c.hear(p, "e4"), 13);
        c.due("E4", c.hear(p, "E4"), Check.NONE);
        c.due("e4+", c.hear(p, "e4+"), Check.NONE);
        c.due("e4 and a blank", c.hear(p, "e4 "), Check.NONE);
        c.due("e", c.hear(p, "e"), Check.NONE);
        c.due("nothing", c.hear(p, ""), Check.NONE);
        c.due("e5", c.hear(p, "e5"), Check.NONE);
        c.due("Pe4", c.hear(p, "Pe4"), Check.NONE);
        c.due("no position", c.hear(1, "e4"), Check.UNKNOWN);
        c.due("the tape is used up", c.x.told(7), 0);
        p = c.position("4k3/8/8/8/8/8/8/R3K3 w - - - 00 0");
        int i = c.hear(p, "Ra8+");
        c.due("without +", c.hear(p, "Ra8"), i);
        c.due("with #", c.hear(p, "Ra8#"), Check.NONE);
        c.due("with ++", c.hear(p, "Ra8++"), Check.NONE);
        c.due("say", c.x.say(p, i), 4);
        c.due("out", c.out(), "Ra8+");
        c.due("say(p, 99)", c.x.say(p, 99), Check.UNKNOWN);
        c.due("say(p, -1)", c.x.say(p, -1), Check.UNKNOWN);
        c.due("say(9, 0)", c.x.say(9, 0), Check.UNKNOWN);
        c.due("THE OUT stays", c.out(), "Ra8+");
        c.hear(p, "Ra8");
        c.due("hear leaves THE OUT", c.out(), "Ra8+");
    }
}
