/**
 * Texts of RULES, positions, SETS and SHORT TEXTS, cut at every place, and with every byte at every place put in, left out
 * and changed: what GameRules answers is what the Oracle does.
 */
public final class FaultSweepTest {
    private static final String RULES = "board 5 4;man k 0 1,to fore catch -1 1;man p pass 1 1ride 2from 3;man q 0 1;royal k;"
        + "becomes p q;castle q;blast p;checks 3;hill a1b2;stale won;bare lost;hand;must;shy;";
    private static final String FOR_POSITIONS = "board 5 4;man k 0 1;man q 1 1;man p to fore 0 1,to fore pass 0 1ride 2 from 1;royal k;"
        + "becomes p q;castle q;checks 3;hand;";
    private static final String POSITION = "q1k2/1pP2/5/K3Q b e1a4 c3c2 PQqq 12 105";
    private static final String FOR_SETS = "board 3 3;man k 0 1;man q 0 1;royal k;";
    /** The bytes next to those that can stand somewhere, and some of these. */
    private static final String BYTES = "\0\t\n\u001f !,-./0123456789:;<?@AKPQZ[`abcdefgkopqwxz{|\u007f\u0080\u00ff";
    private static final int TEXTS_OF_ONE = 25;

    private static int wrong = 0;
    private static int asked = 0;
    private static int stood = 0;

    private GameRules x;
    private Oracle o;
    private int left = 0;
    private final String rules;

    private FaultSweepTest(String rules) { this.rules = rules; }

    public static void main(String[] args) {
        new FaultSweepTest("board 3 3;").sweep("rules", RULES);
        new FaultSweepTest(FOR_POSITIONS).sweep("position", POSITION);
        new FaultSweepTest(FOR_SETS).sweep("solve", "KqkQ");
        new FaultSweepTest("board 8 8;man k 0 1;man r 0 1 ride 7;royal k;castle r;").sweep("hear", "Rh8#");
        System.out.println(wrong == 0 ? asked + " answers agree, " + stood + " texts could stand" : wrong + " answers disagree");
        if (wrong != 0) System.exit(1);
    }

    private void sweep(String call, String text) {
        for (int at = 0; at <= text.length(); at++) {
            String head = text.substring(0, at);
            ask(call, head);
            if (at < text.length()) ask(call, head + text.substring(at + 1));
            for (char b : BYTES.toCharArray()) {
                ask(call, head + b + text.substring(at));
                if (at < text.length()) ask(call, head + b + text.substring(at + 1));
            }
        }
    }

    private void ask(String call, String text) {
        if (left == 0) renew();
        left--;
        tape(text);
        int got, want;
        switch (call) {
            case "rules": got = x.rules(); want = o.rules(); break;
            case "position": got = x.position(); want = o.position(); x.drop(0); o.drop(0); break;
            case "solve": got = x.solve(); want = o.solve(); break;
            default: got = x.hear(0); want = o.hear(0);
        }
        asked++;
        stood += got >= 0 ? 1 : 0;
        if (got == want) return;
        wrong++;
        System.out.println(call + " of '" + text + "' answered " + got + ", the Oracle " + want);
    }

    /** New objects, so that none has more than its 512 calls. */
    private void renew() {
        left = TEXTS_OF_ONE;
        x = new GameRules();
        o = new Oracle();
        tape(rules);
        x.rules();
        o.rules();
        if (rules.contains("castle r")) {
            tape("k7/8/1K6/8/8/8/8/7R w - - - 00 0");
            x.position();
            o.position();
        }
    }

    private void tape(String t) {
        for (int i = 0; i < t.length() || i == 0; i += 20) {
            int[] w = new int[5];
            for (int j = 0; j < 20; j++) w[j / 4] = w[j / 4] << 8 | (i + j < t.length() ? t.charAt(i + j) & 255 : 0);
            x.feed(w[0], w[1], w[2], w[3], w[4]);
            o.feed(w);
        }
        x.end(t.length());
        o.end(t.length());
    }
}
