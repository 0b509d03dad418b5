import java.util.Map;
import java.util.Random;
import java.util.TreeMap;

/** Promises 33 to 35: whole endings of takings, like men and men that become others, held against the Oracle. */
public final class SolvedAgainstOracleTest {
    private static final String KINGS = "man k 0 1,1 1;man q 0 1 ride 7,1 1 ride 7;man r 0 1 ride 7;man n 1 2;royal k;";
    private static final String PLAIN = "man a 0 1;man b 1 1;man c to 0 1 ride 2,on over 0 1 ride 2;";
    private static final String PAWNS = "man k 0 1,1 1;man p to fore 0 1,to fore pass 0 1 ride 2 from 1,on fore 1 1,on fore -1 1;man q 1 1 ride 7;man n 1 2;royal k;becomes p q n;";

    /** A text of RULES, and SETS of it. */
    private static final String[][] ALL = {
        {"board 3 3;" + KINGS, "KRRk", "KRkr", "Krrk", "KQNk", "RRr", "Rrr"},
        {"board 4 3;" + KINGS, "KRkn", "KNNk"},
        {"board 3 3;" + KINGS + "must;", "KRRk", "KRkr", "KNNk", "RRr"},
        {"board 3 3;" + KINGS + "must;stale won;bare won;", "KRkr", "Krrk", "Rrr"},
        {"board 3 3;" + KINGS + "shy;stale lost;", "KRRk", "KRkr"},
        {"board 3 4;" + KINGS + "hill b2;", "KRk", "KRrk"},
        {"board 3 3;" + PLAIN, "AAa", "AAaa", "ABab", "AAAa", "Cca", "CCa", "ACc"},
        {"board 3 3;" + PLAIN + "must;", "AAa", "AAaa", "ABab", "Aaaa", "CCca"},
        {"board 3 3;" + PLAIN + "must;bare won;stale won;", "AAa", "AAaa", "BBaa", "CAca"},
        {"board 4 4;" + PLAIN + "bare won;", "AAa", "Bbb"},
        {"board 3 4;" + PAWNS, "KPk", "KPpk", "PPp"},
        {"board 3 3;" + PAWNS + "must;stale lost;", "KPpk", "KPPk", "Ppp"},
    };

    public static void main(String[] args) {
        for (String[] one : ALL) for (int i = 1; i < one.length; i++) compare(one[0], one[i]);
        Check.finish();
    }

    private static void compare(String rules, String set) {
        Check c = new Check(rules + " " + set, rules);
        Oracle o = new Oracle();
        tape(o, rules);
        o.rules();
        tape(o, set);
        int sets = o.solve();
        c.due("solve", c.solve(set), sets);
        for (int side = 0; side < 2; side++) {
            TreeMap<Integer, Integer> tallies = o.tallies(side);
            for (Map.Entry<Integer, Integer> e : tallies.entrySet()) c.due("tally(" + side + ", " + e.getKey() + ")", c.x.tally(side, e.getKey()), e.getValue());
            for (int n = 0; n < 6; n++) {
                c.due("tally", c.x.tally(side, 1000000 - n), tallies.getOrDefault(1000000 - n, 0));
                c.due("tally", c.x.tally(side, n - 1000000), tallies.getOrDefault(n - 1000000, 0));
            }
        }
        Random r = new Random(set.hashCode());
        for (int i = 0; i < 30; i++) {
            String t = anyPosition(r, set, c.x.told(0), c.x.told(1));
            tape(o, t);
            int p = o.position();
            c.due(t, c.position(t), p);
            c.due("worth of " + t, c.x.worth(p), o.worth(p));
            c.x.drop(p);
            o.drop(p);
        }
    }

    private static void tape(Oracle o, String t) {
        o.end(0);
        for (int i = 0; i < t.length(); i += 20) {
            int[] w = new int[5];
            for (int j = 0; j < 20; j++) w[j / 4] = w[j / 4] << 8 | (i + j < t.length() ? t.charAt(i + j) & 255 : 0);
            o.feed(w);
        }
        o.end(t.length());
    }

    /** A SET's men, one of them left out now and then, each on a square of its own. */
    private static String anyPosition(Random r, String set, int files, int ranks) {
        char[] squares = new char[files * ranks];
        java.util.Arrays.fill(squares, '1');
        for (char m : set.toCharArray()) {
            int s = r.nextInt(squares.length);
            while (squares[s] != '1') s = r.nextInt(squares.length);
            if (r.nextInt(8) > 0) squares[s] = m;
        }
        StringBuilder b = new StringBuilder();
        for (int rank = 0; rank < ranks; rank++) b.append(rank > 0 ? "/" : "").append(squares, rank * files, files);
        return b.append(r.nextBoolean() ? " w" : " b").append(" - - - 00 0").toString();
    }
}
