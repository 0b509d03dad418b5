import java.util.ArrayList;
import java.util.Arrays;
import java.util.List;
import java.util.Random;

/** Promises 33 to 35 on one object: what solve() finds does not depend on what was solved before, greater or smaller. */
public final class SolveAgainTest {
    private static final String KINGS = "man k 0 1, 1 1; man q 0 1 ride 7, 1 1 ride 7; man r 0 1 ride 7; royal k;";
    private static final String PAWNS = "man p to fore 0 1, on fore 1 1, on fore -1 1; man q 1 1 ride 7; man n 1 2; becomes p q n;";

    /** A text of RULES, and a SET. */
    private record Stage(String rules, String set) { }

    /** From 162 positions to 532610: by how many there are in the SETS that come of the one told. */
    private static final Stage[] STAGES = {
        new Stage("board 3 3; " + KINGS, "Kk"),
        new Stage("board 3 3; man a 0 1;", "Aa"),
        new Stage("board 3 5; man a fore 0 1; man b 1 2; bare won; must;", "AbB"),
        new Stage("board 4 4; " + KINGS + "stale lost;", "KRk"),
        new Stage("board 3 4; " + PAWNS, "Ppq"),
        new Stage("board 3 3;man a 0 1;", "AAAAA"),
        new Stage("board 4 4; " + KINGS, "KQkr"),
        new Stage("board 6 7;man a 0 1;", "AAA"),
        new Stage("board 7 8;man a 0 1;", "AAA"),
        new Stage("board 8 8; " + KINGS, "KQk"),
        new Stage("board 8 8;man a 0 1;", "AAA"),
    };

    /** Stages that one object goes through: four, so that it stays within its 512 calls. */
    private static final int[][] ORDERS = {
        {5, 7, 8, 10}, {0, 3, 6, 9}, {1, 2, 4, 8},
        {10, 8, 7, 5}, {9, 6, 3, 0}, {8, 4, 2, 1},
        {9, 0, 10, 1}, {3, 8, 2, 7}, {10, 5, 9, 4}, {6, 1, 6, 3},
    };

    public static void main(String[] args) {
        for (int i = 0; i < ORDERS.length; i++) {
            run(ORDERS[i], i, i >= 6);
        }
        sameRules();
        known();
        Check.finish();
    }

    private static void run(int[] order, int seed, boolean refuse) {
        Check used = new Check("solves, one behind the other, " + Arrays.toString(order));
        for (int i : order) {
            if (refuse) refused(used);
            List<Integer> got = answers(used, STAGES[i], seed);
            List<Integer> want = answers(new Check("solve on a new object"), STAGES[i], seed);
            used.due("first other answer for " + STAGES[i], firstOther(got, want), -1);
        }
    }

    /** Solves that are refused come between: a FAULT, and one that is too great. */
    private static void refused(Check c) {
        c.due("rules", c.rules("board 8 8; " + KINGS), 3);
        c.due("a fault", c.solve("KxK"), -201);
        c.due("too great", c.solve("KQkr"), Check.ROOM);
        c.due("nothing is solved", c.x.tally(0, 0), Check.STATE);
    }

    /** All that rules(), solve(), tally() and worth() answer for a stage; what was solved before goes with the rules. */
    private static List<Integer> answers(Check c, Stage s, int seed) {
        List<Integer> all = new ArrayList<>();
        all.add(c.rules(s.rules));
        c.due("nothing is solved behind rules()", c.x.tally(0, 0), Check.STATE);
        all.add(c.solve(s.set));
        for (int side = 0; side < 2; side++) {
            all.add(c.x.tally(side, 0));
            for (int n = 0; n < 10; n++) {
                all.add(c.x.tally(side, 1000000 - n));
                all.add(c.x.tally(side, n - 1000000));
            }
        }
        Random r = new Random(seed);
        int files = c.x.told(0), ranks = c.x.told(1);
        for (int i = 0; i < 4; i++) {
            int p = c.position(anyPosition(r, s.set, files, ranks));
            all.add(p);
            all.add(c.x.worth(p));
            c.x.drop(p);
        }
        return all;
    }

    /** Some of a SET's men, mostly all of them, each on a square of its own. */
    private static String anyPosition(Random r, String set, int files, int ranks) {
        char[] squares = new char[files * ranks];
        Arrays.fill(squares, '1');
        for (char m : set.toCharArray()) {
            int s = r.nextInt(squares.length);
            if (squares[s] == '1' && r.nextInt(9) > 0) squares[s] = m;
        }
        StringBuilder b = new StringBuilder();
        for (int rank = 0; rank < ranks; rank++) b.append(rank > 0 ? "/" : "").append(squares, rank * files, files);
        return b.append(r.nextBoolean() ? " w" : " b").append(" - - - 00 0").toString();
    }

    private static int firstOther(List<Integer> got, List<Integer> want) {
        for (int i = 0; i < Math.max(got.size(), want.size()); i++) {
            if (i >= got.size() || i >= want.size() || got.get(i).intValue() != want.get(i)) return i;
        }
        return -1;
    }

    /** SETS of the same RULES, one behind the other: the latest one alone is solved. */
    private static void sameRules() {
        Check c = new Check("solves of the same rules", "board 5 5; " + KINGS);
        int queen = c.position("k4/5/5/5/KQ3 w - - - 00 0");
        int rook = c.position("k4/5/5/5/KR3 w - - - 00 0");
        int kings = c.position("k4/5/5/5/K4 w - - - 00 0");
        String[] sets = {"Kk", "KQk", "KRk", "Kk", "KRk", "KQk"};
        for (String set : sets) {
            Check fresh = new Check("a set alone", "board 5 5; " + KINGS);
            c.due("solve " + set, c.solve(set), fresh.solve(set));
            String man = set.length() < 3 ? "" : set.substring(1, 2);
            c.due("queen", c.x.worth(queen), man.equals("Q") ? fresh.x.worth(fresh.position("k4/5/5/5/KQ3 w - - - 00 0")) : Check.STATE);
            c.due("rook", c.x.worth(rook), man.equals("R") ? fresh.x.worth(fresh.position("k4/5/5/5/KR3 w - - - 00 0")) : Check.STATE);
            c.due("kings", c.x.worth(kings), 2000000);
            for (int side = 0; side < 2; side++) {
                for (int n = 0; n < 12; n++) {
                    c.due("won", c.x.tally(side, 1000000 - n), fresh.x.tally(side, 1000000 - n));
                    c.due("lost", c.x.tally(side, n - 1000000), fresh.x.tally(side, n - 1000000));
                }
                c.due("drawn", c.x.tally(side, 0), fresh.x.tally(side, 0));
            }
        }
    }

    /** A few numbers that are known, lest a new object and a used one be wrong alike. */
    private static void known() {
        Check c = new Check("solves, one behind the other");
        c.due("rules", c.rules("board 3 3;man a 0 1;"), 1);
        c.due("AAAAA", c.solve("AAAAA"), 6);
        c.due("BLACK has no man", c.x.tally(1, -1000000), 126);
        c.due("rules", c.rules("board 8 8; " + KINGS), 3);
        c.due("KQk", c.solve("KQk"), 2);
        c.due("mates", c.x.tally(1, -1000000), 364);
        c.due("rules", c.rules("board 6 7;man a 0 1;"), 1);
        c.due("AAA", c.solve("AAA"), 4);
        c.due("BLACK has no man", c.x.tally(1, -1000000), 42 * 41 * 40 / 6);
        c.due("WHITE has won", c.x.tally(0, 1000000), 42 * 41 * 40 / 6);
        c.due("rules", c.rules("board 8 8; " + KINGS), 3);
        c.due("KRk", c.solve("KRk"), 2);
        c.due("in 16", c.x.tally(1, 32 - 1000000) > 0 ? 1 : 0, 1);
        c.due("in no more", c.x.tally(1, 34 - 1000000), 0);
    }
}
