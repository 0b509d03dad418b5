/** An object of GameRules that is fed with texts, and whose answers are held against what is due. */
final class Check {
    static final String CHESSMEN = "board 8 8; man k 0 1, 1 1; man q 0 1 ride 7, 1 1 ride 7; man r 0 1 ride 7;"
        + " man b 1 1 ride 7; man n 1 2; man p to fore 0 1, to fore pass 0 1 ride 2 from 2,"
        + " on fore catch 1 1, on fore catch -1 1;";
    static final String CHESS = CHESSMEN + " royal k; becomes p q r b n; castle r;";
    static final String START = "rnbqkbnr/pppppppp/8/8/8/8/PPPPPPPP/RNBQKBNR w a1h1a8h8 - - 00 0";
    static final int NONE = -1, OUTSIDE = -101, UNKNOWN = -102, STATE = -103, ROOM = -104;

    private static int wrong = 0;
    private static int asked = 0;

    final GameRules x = new GameRules();
    private final String about;

    Check(String about) { this.about = about; }

    /** New RULES at once. */
    Check(String about, String rules) {
        this(about);
        int men = rules(rules);
        if (men < 0) due("rules " + rules, men, 0);
    }

    static void finish() {
        System.out.println(wrong == 0 ? asked + " answers are as due" : wrong + " answers are not as due");
        if (wrong != 0) System.exit(1);
    }

    void due(String what, long got, long want) {
        asked++;
        if (got == want) return;
        wrong++;
        System.out.println(about + ": " + what + " answered " + got + ", due is " + want);
    }

    void due(String what, String got, String want) {
        asked++;
        if (got.equals(want)) return;
        wrong++;
        System.out.println(about + ": " + what + " told '" + got + "', due is '" + want + "'");
    }

    /** RULES whose STEPS lead over the board in as many ways as can be; the last STEP of each man alone takes. */
    static String mostWays() {
        StringBuilder b = new StringBuilder("board 8 8;");
        for (char m = 'a'; m < 'm'; m++) b.append("man ").append(m).append(" to0 1ride7").append(",to0 1ride7".repeat(6)).append(",on0 1ride7;");
        return b.toString();
    }

    /** THE TAPE becomes a text. */
    Check tape(String t) {
        x.end(0);
        for (int i = 0; i < t.length(); i += 20) {
            int[] w = new int[5];
            for (int j = 0; j < 20; j++) w[j / 4] = w[j / 4] << 8 | (i + j < t.length() ? t.charAt(i + j) & 255 : 0);
            x.feed(w[0], w[1], w[2], w[3], w[4]);
        }
        x.end(t.length());
        return this;
    }

    int rules(String t) { return tape(t).x.rules(); }
    int position(String t) { return tape(t).x.position(); }
    int hear(int p, String t) { return tape(t).x.hear(p); }
    int solve(String t) { return tape(t).x.solve(); }

    String out() {
        StringBuilder b = new StringBuilder();
        int n = x.told(6);
        for (int i = 0; i < n; i++) b.append((char) x.out(i));
        return b.toString();
    }

    String written(int p) { return x.write(p) < 0 ? "refused" : out(); }
    String said(int p, int i) { return x.say(p, i) < 0 ? "refused" : out(); }
    String view(int p, int side) { return x.view(p, side) < 0 ? "refused" : out(); }

    /** All SHORT TEXTS, in order. */
    String texts(int p) {
        StringBuilder b = new StringBuilder();
        for (int i = 0; i < x.moves(p); i++) b.append(i > 0 ? " " : "").append(said(p, i));
        return b.toString();
    }

    /** The position behind a move told in its SHORT TEXT. */
    int after(int p, String move) {
        int i = hear(p, move);
        if (i < 0) due("hear " + move, i, 0);
        return x.go(p, i);
    }

    /** Tells a text with | where its FAULT is. */
    void rulesFault(String marked) {
        due("rules " + marked, rules(marked.replace("|", "")), -1 - marked.indexOf('|'));
    }

    void positionFault(String marked) {
        due("position " + marked, position(marked.replace("|", "")), -200 - marked.indexOf('|'));
    }
}
