/** What README.md shows, line by line. */
public final class ReadmeTest {
    public static void main(String[] args) {
        Check c = new Check("README");
        games(c, c.x);
        problems(c, c.x);
        endings(c, c.x);
        Check.finish();
    }

    /** Puts a text on THE TAPE. */
    static void tell(GameRules x, String text) {
        x.end(0);
        for (int i = 0; i < text.length(); i += 20) {
            int[] n = new int[5];
            for (int j = 0; j < 20; j++) n[j / 4] = n[j / 4] << 8 | (i + j < text.length() ? text.charAt(i + j) : 0);
            x.feed(n[0], n[1], n[2], n[3], n[4]);
        }
        x.end(text.length());
    }

    /** THE OUT as a text. */
    static String heard(GameRules x) {
        StringBuilder text = new StringBuilder();
        for (int i = 0; i < x.told(6); i++) text.append((char) x.out(i));
        return text.toString();
    }

    private static void games(Check c, GameRules x) {
        tell(x, "rnbqkbnr/pppppppp/8/8/8/8/PPPPPPPP/RNBQKBNR w a1h1a8h8 - - 00 0");
        int p = x.position();
        c.due("position", p, 0);
        c.due("moves", x.moves(p), 20);
        tell(x, "Nf3");
        int i = x.hear(p);
        c.due("hear", i, 2);
        x.start(0, p);
        c.due("add", x.add(0, i), 1);
        int q = x.now(0);
        c.due("now", q, 1);
        x.write(q);
        c.due("write", heard(x), "rnbqkbnr/pppppppp/8/8/8/5N2/PPPPPPPP/RNBQKB1R b a1h1a8h8 - - 00 1");
        x.say(q, 0);
        c.due("say", heard(x), "a5");
        c.due("drop", x.drop(q), 1);
        c.due("moves", x.moves(q), GameRules.UNKNOWN);
    }

    private static void problems(Check c, GameRules x) {
        tell(x, "7k/8/5K2/8/8/8/8/6R1 w - - - 00 0");
        int p = x.position();
        c.due("problem", x.problem(p, 0, 0, 2), 1);
        x.say(p, x.key(0));
        c.due("key", heard(x), "Kf7");
        c.due("refutes", x.refutes(0), 2);
    }

    private static void endings(Check c, GameRules x) {
        tell(x, "board 5 5; man k 0 1, 1 1; man r 0 1 ride 4; royal k;");
        c.due("rules", x.rules(), 2);
        c.due("told", x.told(5), 0);
        tell(x, "KRk");
        c.due("solve", x.solve(), 2);
        tell(x, "4k/5/2K2/5/3R1 w - - - 00 0");
        int p = x.position();
        c.due("worth", x.worth(p) - 2000000, 1000000 - 3);
        tell(x, "4k/5/2K2/x/3R1 w - - - 00 0");
        c.due("FAULT", x.position(), -200 - 9);
    }
}
