import java.util.Random;

/** No call throws, whatever its arguments and the state are, and a run of calls makes few objects. */
public final class WildTest {
    private static final int[] EDGES = {Integer.MIN_VALUE, Integer.MAX_VALUE, -1000001, -104, -2, -1, 0, 1, 2, 3, 5, 7, 8, 59, 60, 63, 64, 65,
        300, 1200, 4096, 1000000};

    public static void main(String[] args) {
        for (int seed = 0; seed < 60; seed++) wild(new Random(seed));
        room();
        Check.finish();
    }

    private static void wild(Random r) {
        Check c = new Check("wild");
        String[] rules = {Check.CHESS, Check.CHESS + "hand; blast p; checks 3;", Check.CHESSMEN + "must; stale won; bare won; becomes p q r b n k;",
            "board 3 3; man k 0 1, 1 1; man p to fore 0 1, on fore 1 1; man q 1 1 ride 2; royal k; becomes p q; shy; hill b2;", "board 3 3;"};
        String[] positions = {Check.START, "r3k2r/8/8/3pP3/8/8/8/R3K2R w a1h1a8h8 d5d6 - 00 0", "2k/3/K1P w - - - 00 0", "3/3/3 b - - - 00 0"};
        c.rules(rules[r.nextInt(rules.length)]);
        for (String p : positions) c.position(p);
        for (int i = 0; i < 304; i++) {
            try {
                call(c, r, i % 38);
            } catch (RuntimeException e) {
                c.due("call " + i % 38 + " threw " + e, 1, 0);
                return;
            }
        }
    }

    private static int any(Random r) {
        return r.nextInt(4) == 0 ? EDGES[r.nextInt(EDGES.length)] : r.nextInt(9);
    }

    private static void call(Check c, Random r, int which) {
        GameRules x = c.x;
        int a = any(r), b = any(r), d = any(r), e = any(r);
        switch (which) {
            case 0: x.feed(a, b, d, e, r.nextInt()); break;
            case 1: x.end(a); break;
            case 2: if (r.nextInt(9) == 0) x.rules(); break;
            case 3: x.told(a); break;
            case 4: x.out(a); break;
            case 5: x.position(); break;
            case 6: if (r.nextInt(5) == 0) x.drop(a); break;
            case 7: x.write(a); break;
            case 8: x.same(a, b); break;
            case 9: x.at(a, b); break;
            case 10: x.figure(a, b); break;
            case 11: x.attacked(a, b, d); break;
            case 12: x.moves(a); break;
            case 13: x.move(a, b, d); break;
            case 14: x.go(a, b); break;
            case 15: x.rows(a, b > 3 ? b + 4 : b); break;
            case 16: x.ended(a); break;
            case 17: x.result(a); break;
            case 18: x.say(a, b); break;
            case 19: x.hear(a); break;
            case 20: x.start(a, b); break;
            case 21: x.add(a, b); break;
            case 22: x.back(a); break;
            case 23: x.game(a, b); break;
            case 24: x.played(a, b); break;
            case 25: x.now(a); break;
            case 26: x.book(a, b); break;
            case 27: x.sees(a, b, d); break;
            case 28: x.view(a, b); break;
            case 29: x.before(a); break;
            case 30: x.beforeAt(a); break;
            case 31: c.solve("Kk"); break;
            case 32: x.worth(a); break;
            case 33: x.tally(a, b); break;
            case 34: x.problem(a, b, d, e > 2 ? e + 2 : e); break;
            case 35: x.key(a); break;
            case 36: x.refutes(a); break;
            default: c.tape(r.nextBoolean() ? "KPkq" : "board 3 3; man k 0 1;"); break;
        }
    }

    /** All that one object makes in a run of the dearest calls is far below what there is room for. */
    private static void room() {
        com.sun.management.ThreadMXBean bean = (com.sun.management.ThreadMXBean) java.lang.management.ManagementFactory.getThreadMXBean();
        long id = Thread.currentThread().getId();
        long first = bean.getThreadAllocatedBytes(id);
        Check c = new Check("room");
        long made = bean.getThreadAllocatedBytes(id) - first;
        c.due("a new object makes less than three megabytes", made < 3 << 20 ? 1 : 0, 1);
        c.position(Check.START);
        c.x.start(0, 0);
        first = bean.getThreadAllocatedBytes(id);
        for (int i = 0; i < 20; i++) {
            c.x.rows(0, 3);
            c.x.before(0);
            c.x.problem(0, 0, 0, 2);
            c.x.say(0, 3);
            c.x.view(0, 1);
            c.x.book(0, 3);
        }
        made = bean.getThreadAllocatedBytes(id) - first;
        c.due("later calls make next to nothing", made < 10000 ? 1 : 0, 1);
        first = bean.getThreadAllocatedBytes(id);
        String kings = "board 8 8; man k 0 1, 1 1; man q 0 1 ride 7, 1 1 ride 7; royal k;";
        c.rules(kings);
        c.due("too great", c.solve("KQkq"), Check.ROOM);
        c.due("rules", c.rules(Check.mostWays()), 12);
        made = bean.getThreadAllocatedBytes(id) - first;
        c.due("the greatest rules make nothing", made < 40000 ? 1 : 0, 1);
        String[][] growing = {{"board 3 3;man a 0 1;", "AA"}, {"board 3 3;man a 0 1;", "AAAAA"}, {"board 6 7;man a 0 1;", "AAA"},
            {"board 7 8;man a 0 1;", "AAA"}, {kings, "KQk"}, {"board 8 8;man a 0 1;", "AAA"}, {kings, "Kk"}};
        first = bean.getThreadAllocatedBytes(id);
        for (String[] one : growing) {
            c.rules(one[0]);
            c.due("solve " + one[1], c.solve(one[1]) > 0 ? 1 : 0, 1);
        }
        made = bean.getThreadAllocatedBytes(id) - first;
        c.due("three rows for endings, made once", made < 3 * 4 * 600000 + 100000 ? 1 : 0, 1);
    }
}
