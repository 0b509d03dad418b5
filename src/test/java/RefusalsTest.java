import java.util.ArrayList;
import java.util.List;

/**
 * "Refusals are answers, of several the first one here: OUTSIDE, UNKNOWN, STATE, ROOM. They change nothing but THE TAPE, and
 * what is told": an object whose call was refused tells all that one without that call does.
 */
public final class RefusalsTest {
    private static final String RULES = "board 4 4;man k 0 1,1 1;man q 0 1 ride 3,1 1 ride 3;man p to fore 0 1;royal k;becomes p q;";
    private static final int LEAST = Integer.MIN_VALUE, MOST = Integer.MAX_VALUE;

    /** A call that is refused, whatever the numbers beside the wrong one are. */
    private interface Call { int on(Check c); }

    private record Case(String name, int want, Call call) { }

    private static final List<Case> CASES = new ArrayList<>();

    private static void add(String name, int want, Call call) { CASES.add(new Case(name, want, call)); }

    public static void main(String[] args) {
        outside();
        unknown();
        stateAndRoom();
        faults();
        String was = all(ready("no refusal"));
        for (Case one : CASES) run(one, was);
        severalAtOnce();
        Check.finish();
    }

    private static void outside() {
        for (int wrong : new int[] {-1, LEAST, MOST}) {
            add("end " + wrong, Check.OUTSIDE, c -> c.x.end(wrong));
            add("told " + wrong, Check.OUTSIDE, c -> c.x.told(wrong));
            add("at " + wrong, Check.OUTSIDE, c -> c.x.at(0, wrong));
            add("figure " + wrong, Check.OUTSIDE, c -> c.x.figure(0, wrong));
            add("attacked " + wrong, Check.OUTSIDE, c -> c.x.attacked(0, wrong, 0));
            add("attacked by " + wrong, Check.OUTSIDE, c -> c.x.attacked(0, 0, wrong));
            add("move " + wrong, Check.OUTSIDE, c -> c.x.move(0, 0, wrong));
            add("rows " + wrong, Check.OUTSIDE, c -> c.x.rows(0, wrong));
            add("start " + wrong, Check.OUTSIDE, c -> c.x.start(wrong, 0));
            add("add " + wrong, Check.OUTSIDE, c -> c.x.add(wrong, 0));
            add("back " + wrong, Check.OUTSIDE, c -> c.x.back(wrong));
            add("game " + wrong, Check.OUTSIDE, c -> c.x.game(wrong, 0));
            add("game's " + wrong, Check.OUTSIDE, c -> c.x.game(0, wrong));
            add("played " + wrong, Check.OUTSIDE, c -> c.x.played(wrong, 0));
            add("now " + wrong, Check.OUTSIDE, c -> c.x.now(wrong));
            add("sees " + wrong, Check.OUTSIDE, c -> c.x.sees(0, wrong, 0));
            add("sees square " + wrong, Check.OUTSIDE, c -> c.x.sees(0, 0, wrong));
            add("view " + wrong, Check.OUTSIDE, c -> c.x.view(0, wrong));
            add("tally " + wrong, Check.OUTSIDE, c -> c.x.tally(wrong, 0));
            add("problem of kind " + wrong, Check.OUTSIDE, c -> c.x.problem(0, wrong, 0, 1));
            add("problem of goal " + wrong, Check.OUTSIDE, c -> c.x.problem(0, 0, wrong, 1));
            add("problem in " + wrong, Check.OUTSIDE, c -> c.x.problem(0, 0, 0, wrong));
        }
        add("tally of 1000001", Check.OUTSIDE, c -> c.x.tally(0, 1000001));
        add("tally of -1000001", Check.OUTSIDE, c -> c.x.tally(0, -1000001));
        add("out", Check.NONE, c -> c.x.out(-1));
        add("key", Check.NONE, c -> c.x.key(-1));
        add("refutes", Check.NONE, c -> c.x.refutes(-1));
    }

    private static void unknown() {
        for (int wrong : new int[] {59, 60, -1, LEAST, MOST}) {
            add("drop " + wrong, Check.UNKNOWN, c -> c.x.drop(wrong));
            add("write " + wrong, Check.UNKNOWN, c -> c.x.write(wrong));
            add("at of " + wrong, Check.UNKNOWN, c -> c.x.at(wrong, 0));
            add("figure of " + wrong, Check.UNKNOWN, c -> c.x.figure(wrong, 0));
            add("attacked of " + wrong, Check.UNKNOWN, c -> c.x.attacked(wrong, 0, 0));
            add("moves of " + wrong, Check.UNKNOWN, c -> c.x.moves(wrong));
            add("move of " + wrong, Check.UNKNOWN, c -> c.x.move(wrong, 0, 0));
            add("move " + wrong, Check.UNKNOWN, c -> c.x.move(0, wrong, 0));
            add("go of " + wrong, Check.UNKNOWN, c -> c.x.go(wrong, 0));
            add("go " + wrong, Check.UNKNOWN, c -> c.x.go(0, wrong));
            add("rows of " + wrong, Check.UNKNOWN, c -> c.x.rows(wrong, 0));
            add("ended " + wrong, Check.UNKNOWN, c -> c.x.ended(wrong));
            add("result " + wrong, Check.UNKNOWN, c -> c.x.result(wrong));
            add("say of " + wrong, Check.UNKNOWN, c -> c.x.say(wrong, 0));
            add("say " + wrong, Check.UNKNOWN, c -> c.x.say(0, wrong));
            add("hear " + wrong, Check.UNKNOWN, c -> c.hear(wrong, "Ka2"));
            add("start with " + wrong, Check.UNKNOWN, c -> c.x.start(0, wrong));
            add("add " + wrong, Check.UNKNOWN, c -> c.x.add(0, wrong));
            add("played " + wrong, Check.UNKNOWN, c -> c.x.played(0, wrong));
            add("book of " + wrong, Check.UNKNOWN, c -> c.x.book(wrong, Check.NONE));
            add("sees of " + wrong, Check.UNKNOWN, c -> c.x.sees(wrong, 0, 0));
            add("view of " + wrong, Check.UNKNOWN, c -> c.x.view(wrong, 0));
            add("before of " + wrong, Check.UNKNOWN, c -> c.x.before(wrong));
            add("worth of " + wrong, Check.UNKNOWN, c -> c.x.worth(wrong));
            add("problem of " + wrong, Check.UNKNOWN, c -> c.x.problem(wrong, 0, 0, 1));
            add("same " + wrong, 0, c -> c.x.same(wrong, 0) ? 1 : 0);
        }
        for (int wrong : new int[] {-2, 60, LEAST, MOST}) add("book of move " + wrong, Check.UNKNOWN, c -> c.x.book(0, wrong));
        for (int wrong : new int[] {-1, 3000, LEAST, MOST}) add("beforeAt " + wrong, Check.UNKNOWN, c -> c.x.beforeAt(wrong));
        add("hear, NONE", Check.NONE, c -> c.hear(0, "Kh8"));
        add("add to no game", Check.UNKNOWN, c -> c.x.add(5, 0));
        add("back of no game", Check.UNKNOWN, c -> c.x.back(5));
        add("no game", Check.UNKNOWN, c -> c.x.game(5, 0));
        add("now of no game", Check.UNKNOWN, c -> c.x.now(5));
    }

    private static void stateAndRoom() {
        add("back of a game without moves", Check.STATE, c -> c.x.back(1));
        add("worth of other men", Check.STATE, c -> c.x.worth(2));
        add("problem of an ended one", Check.STATE, c -> c.x.problem(3, 0, 0, 1));
        add("rows, too many", Check.ROOM, c -> c.x.rows(2, 6));
        add("problem, too many rows", Check.ROOM, c -> c.x.problem(2, 2, 0, 4));
    }

    private static void faults() {
        for (String t : new String[] {"", "board 4 4", "board 3 3;man k 0 1;royal k;x"}) add("rules " + t, -1 - (t.endsWith("x") ? t.length() - 1 : t.length()), c -> c.rules(t));
        for (String t : new String[] {"", "4/4/4/4"}) add("position " + t, -200 - t.length(), c -> c.position(t));
        add("position -2", -2, c -> c.position("KK2/4/4/4 w - - - 00 0"));
        add("position -6", -6, c -> c.position("Kk2/4/4/4 w - - - 00 0"));
        for (String t : new String[] {"", "K", "Kkx", "KkQQQQ"}) add("solve " + t, -200 - (t.endsWith("x") ? 2 : t.length() > 5 ? 5 : t.length()), c -> c.solve(t));
    }

    private static void run(Case one, String was) {
        Check c = ready(one.name);
        c.due(one.name, one.call.on(c), one.want);
        c.due("all that is told", all(c), was);
    }

    /** Positions, games, what was found, what is solved, a problem, and THE OUT. */
    private static Check ready(String about) {
        Check c = new Check(about, RULES);
        c.position("k3/4/4/KQ2 w - - - 00 7");
        c.position("3k/4/1P2/K3 b - - - 00 200");
        c.position("1qqk/4/Q3/KQQ1 w - - - 00 0");
        c.position("k3/1Q2/2K1/4 b - - - 00 0");
        c.x.start(0, 0);
        c.x.add(0, 3);
        c.x.add(0, 0);
        c.x.start(1, 1);
        c.due("found", c.x.before(1) > 2 ? 1 : 0, 1);
        c.due("solved", c.solve("KQk"), 2);
        c.due("a problem", c.x.problem(0, 0, 0, 2) >= 0 ? 1 : 0, 1);
        c.x.write(1);
        return c;
    }

    /** All that an object tells. */
    private static String all(Check c) {
        GameRules x = c.x;
        StringBuilder b = new StringBuilder(c.out());
        for (int i = 0; i < 7; i++) b.append(' ').append(x.told(i));
        for (int p = 0; p < 4; p++) b.append('\n').append(c.written(p)).append(' ').append(x.moves(p)).append(' ').append(x.worth(p)).append(' ').append(x.book(p, Check.NONE));
        for (int g = 0; g < 3; g++) {
            b.append('\n');
            for (int what = 0; what < 4; what++) b.append(x.game(g, what)).append(' ');
            for (int k = 0; k < 3; k++) b.append(x.played(g, k)).append(' ');
        }
        for (int k = 0; k < 2; k++) {
            int p = x.beforeAt(k);
            b.append('\n').append(p).append(c.written(p));
            x.drop(p);
        }
        b.append('\n').append(x.tally(0, 0)).append(' ').append(x.tally(1, -1000000));
        for (int i = 0; i < 6; i++) b.append(' ').append(x.key(i)).append(' ').append(x.refutes(i));
        return b.toString();
    }

    /** "of several the first one here" */
    private static void severalAtOnce() {
        Check c = new Check("several at once", "board 3 3;man a 0 1;hand;");
        GameRules x = c.x;
        c.due("at", x.at(9, 9), Check.OUTSIDE);
        c.due("figure", x.figure(9, 9), Check.OUTSIDE);
        c.due("attacked", x.attacked(9, 9, 0), Check.OUTSIDE);
        c.due("attacked", x.attacked(9, 0, 9), Check.OUTSIDE);
        c.due("move", x.move(9, 9, 9), Check.OUTSIDE);
        c.due("rows", x.rows(9, 9), Check.OUTSIDE);
        c.due("start", x.start(9, 9), Check.OUTSIDE);
        c.due("add", x.add(9, 9), Check.OUTSIDE);
        c.due("game", x.game(9, 0), Check.OUTSIDE);
        c.due("game", x.game(0, 9), Check.OUTSIDE);
        c.due("played", x.played(9, 9), Check.OUTSIDE);
        c.due("sees", x.sees(9, 9, 0), Check.OUTSIDE);
        c.due("sees", x.sees(9, 0, 9), Check.OUTSIDE);
        c.due("view", x.view(9, 9), Check.OUTSIDE);
        c.due("tally, nothing solved", x.tally(9, 0), Check.OUTSIDE);
        c.due("problem", x.problem(9, 9, 0, 1), Check.OUTSIDE);
        c.due("before, with hand", x.before(9), Check.UNKNOWN);
        c.due("worth, nothing solved", x.worth(9), Check.UNKNOWN);
        for (int i = 0; i < 60; i++) c.position("3/3/A2 w - - - 00 0");
        c.due("go, all places full", x.go(0, 0), Check.UNKNOWN);
        c.due("now, all places full", x.now(0), Check.UNKNOWN);
        c.due("now, all places full", x.now(8), Check.OUTSIDE);
        c.due("beforeAt, all places full", x.beforeAt(0), Check.UNKNOWN);
        c.due("problem of an ended one, wrong", x.problem(0, 4, 0, 1), Check.OUTSIDE);
        c.due("solve of too much, with hand", c.solve("AAAAAAA"), Check.STATE);
        c.due("position, all places full", c.position("?"), Check.ROOM);
    }
}
