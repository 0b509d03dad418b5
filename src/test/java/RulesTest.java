/** Promises 1 to 6: a new object, THE TAPE, RULES, what is told, THE OUT. */
public final class RulesTest {
    public static void main(String[] args) {
        newObject();
        feedAndEnd();
        goodRules();
        faults();
        faultsOfMen();
        faultsOfOthers();
        rulesForget();
        rulesStay();
        tapeIsUsedUp();
        Check.finish();
    }

    private static void newObject() {
        Check c = new Check("new object");
        int[] want = {8, 8, 6, 0, 5, 0, 0, 0};
        for (int i = 0; i < 8; i++) c.due("told(" + i + ")", c.x.told(i), want[i]);
        c.due("told(-1)", c.x.told(-1), Check.OUTSIDE);
        c.due("told(8)", c.x.told(8), Check.OUTSIDE);
        c.due("out(0)", c.x.out(0), Check.NONE);
        c.due("moves(0)", c.x.moves(0), Check.UNKNOWN);
        c.due("game(0, 0)", c.x.game(0, 0), Check.UNKNOWN);
        c.due("beforeAt(0)", c.x.beforeAt(0), Check.UNKNOWN);
        c.due("tally(0, 0)", c.x.tally(0, 0), Check.STATE);
        c.due("key(0)", c.x.key(0), Check.NONE);
        c.due("refutes(0)", c.x.refutes(0), Check.NONE);
        c.due("position", c.position(Check.START), 0);
        c.due("rows of 3", c.x.rows(0, 3), 8902);
    }

    private static void feedAndEnd() {
        Check c = new Check("feed and end");
        c.due("end(1)", c.x.end(1), Check.OUTSIDE);
        c.due("end(0)", c.x.end(0), 0);
        for (int i = 1; i <= 60; i++) c.due("feed", c.x.feed(0, -1, 0x41424344, 7, Integer.MIN_VALUE), 20 * i);
        c.due("feed too much", c.x.feed(0, 0, 0, 0, 0), Check.ROOM);
        c.due("told(7)", c.x.told(7), 1200);
        c.due("end(1201)", c.x.end(1201), Check.OUTSIDE);
        c.due("end(-1)", c.x.end(-1), Check.OUTSIDE);
        c.due("end(1200)", c.x.end(1200), 1200);
        c.due("end(1181)", c.x.end(1181), 1181);
        c.due("feed 1201", c.x.feed(0, 0, 0, 0, 0), Check.ROOM);
        c.due("end(1180)", c.x.end(1180), 1180);
        c.due("feed 1200", c.x.feed(0, 0, 0, 0, 0), 1200);
        c.due("end(0)", c.x.end(0), 0);
        // boar d 3  3;.. : of each number the highest byte first
        c.due("feed", c.x.feed(0x626f6172, 0x64332033, 0x3b202020, 0x2020200a, 0x20202041), 20);
        c.due("the last byte is none", c.x.rules(), -20);
        c.due("feed", c.x.feed(0x626f6172, 0x64332033, 0x3b202020, 0x2020200a, 0x20202041), 20);
        c.due("end(19)", c.x.end(19), 19);
        c.due("rules()", c.x.rules(), 0);
        c.due("told(0)", c.x.told(0), 3);
    }

    private static void goodRules() {
        Check c = new Check("good rules");
        c.due("no men", c.rules("board 3 8;"), 0);
        c.due("files", c.x.told(0), 3);
        c.due("ranks", c.x.told(1), 8);
        c.due("men", c.x.told(2), 0);
        c.due("royal", c.x.told(3), Check.NONE);
        c.due("plain", c.x.told(4), Check.NONE);
        c.due("no blanks", c.rules("board3 3;man k0 1,1 1;royal k;hill a1b2c3;"), 1);
        c.due("royal", c.x.told(3), 0);
        c.due("blanks", c.rules("\n board \n08  03 ;\n\nman\nz -7 07 ride 02 from 3 , catch pass fore on -0 1;  \n"), 1);
        c.due("files", c.x.told(0), 8);
        c.due("ranks", c.x.told(1), 3);
        StringBuilder many = new StringBuilder("board 8 8;");
        for (char m = 'a'; m < 'm'; m++) many.append("man ").append(m).append(" 0 1,0 2,0 3,0 4,0 5,0 6,0 7,1 1;");
        c.due("twelve men of eight steps", c.rules(many.toString()), 12);
        c.rulesFault(many + "man |m 0 1;");
        c.due("all", c.rules("board 4 4; man a 0 1; man b 0 1; man c 0 1; man d 0 1; becomes c a; becomes d a b;"
            + " man k 1 1; royal k; castle a; hand; must; shy; blast; checks 9;"
            + " hill d4 a1; stale lost; bare won;"), 5);
        c.due("royal", c.x.told(3), 4);
        c.due("plain", c.x.told(4), 2);
        c.due("six become", c.rules("board 3 3; man a 0 1; man b 0 1; man c 0 1; man d 0 1; man e 0 1; man f 0 1;"
            + " man g 0 1; becomes g a b c d e f;"), 7);
        c.due("chess", c.rules(Check.CHESS), 6);
    }

    private static void faults() {
        Check c = new Check("faults");
        for (String t : new String[] {"|", "  \n|", "board|", "board |", "board 8|", "board 8 8|", "board 8 8 |", "|boar 8 8;",
            "|boards 8 8;", "|Board 8 8;", "|8 8;", "board |2 8;", "board |9 8;", "board 8 |2;", "board 8 |9;", "board |008 8;",
            "board |-8 8;", "board |- 8 8;", "board |-", "board |88;", "board 8|, 8;", "board 8 8|, ;", "board 8 8 |8;",
            "board 8 8; |;", "board 8 8; |board 8 8;", "board 8 8; |men k 0 1;", "board 8 8; |8;", "board 8 8; |\t",
            "board 8 8; hand|", "board 8 8; hand |hand;", "board 8 8; hand; |hand;"}) c.rulesFault(t);
        c.due("the first rules are still there", c.position(Check.START), 0);
    }

    private static void faultsOfMen() {
        Check c = new Check("faults of men");
        String b = "board 8 6; ";
        for (String t : new String[] {"man|", "man |;", "man |kk 0 1;", "man |1 0 1;", "man k 0 1; man |k 0 1;", "man k|", "man k |;",
            "man k 0|", "man k 0 |;", "man k 0 |0;", "man k -0 |00;", "man k |8 0;", "man k |-8 0;", "man k 0 |8;", "man k 7 |-8;",
            "man k 0 1|", "man k 0 1 |2;", "man k |forth 0 1;", "man k to |on 0 1;", "man k on fore |to 0 1;", "man k to |to 0 1;",
            "man k over |pass 0 1;", "man k pass catch |over 0 1;", "man k catch |catch 0 1;", "man k fore |fore 0 1;",
            "man k over |over 0 1;", "man k to|, 0 1;", "man k 0 1 |to;", "man k 0 1 ride|", "man k 0 1 ride |1;", "man k 0 1 ride |8;",
            "man k 0 1 ride 2 |ride 2;", "man k 0 1 from |0;", "man k 0 1 from |7;", "man k 0 1 from 6 |ride 2;",
            "man k 0 1 from 6 |from 6;", "man k 0 1,|", "man k 0 1,|;", "man k 0 1, |, 0 1;", "man k 0 |111;", "man k 0 |- 1;",
            "man k 0 1, 0 1, 0 1, 0 1, 0 1, 0 1, 0 1, 0 1|, 0 1;"}) c.rulesFault(b + t);
    }

    private static void faultsOfOthers() {
        Check c = new Check("faults of others");
        String b = "board 5 6; man k 0 1; man p 0 1; man q 0 1; man r 0 1; ";
        for (String t : new String[] {"royal |;", "royal |x;", "royal |kp;", "royal k |p;", "royal k; |royal p;", "becomes p q; royal |p;",
            "becomes p q; royal |q;", "becomes |;", "becomes |x q;", "becomes p |;", "becomes p |x;", "becomes p |p;", "becomes p q |q;",
            "royal k; becomes |k q;", "royal k; becomes p |k;", "becomes p q; becomes |p r;", "becomes p q; becomes |q r;",
            "becomes p q; becomes r |p;", "becomes p q r k|, ;", "|castle r;", "royal k; castle |k;", "royal k; castle |x;",
            "royal k; castle r |q;", "royal k; castle r; |castle r;", "must |must;", "must; |must;", "shy; hand; |shy;", "blast |x;",
            "blast k |k;", "blast k p q r |k;", "blast|, ;", "blast; |blast k;", "checks |0;", "checks |10;", "checks |;", "checks 3; |checks 3;",
            "hill |;", "hill |f1;", "hill a|7;", "hill a|0;", "hill a|;", "hill a1 b2 a|1;", "hill a1 |2;", "hill |ab1;", "hill a1; |hill a1;",
            "stale |;", "stale |draw;", "stale won |won;", "stale won; |stale lost;", "bare |1;", "bare lost; |bare lost;", "stale|",
            "bare won; must; shy; hand; checks 1; |Z"}) c.rulesFault(b + t);
        c.rulesFault("board 3 3; man a 0 1; man b 0 1; man c 0 1; man d 0 1; man e 0 1; man f 0 1; man g 0 1; man h 0 1;"
            + " becomes h a b c d e f |g;");
        StringBuilder all = new StringBuilder("board 8 8; hill ");
        for (int s = 0; s < 64; s++) all.append((char) ('a' + s % 8)).append(1 + s / 8);
        c.rulesFault(all + " c|4;");
    }

    private static void rulesForget() {
        Check c = new Check("rules forget");
        c.position("4k3/8/8/8/8/8/8/4K2R w - - - 00 0");
        c.x.start(0, 0);
        c.x.before(0);
        c.x.problem(0, 0, 0, 1);
        c.x.write(0);
        c.due("told(5)", c.x.told(5), 1);
        c.due("rules", c.rules("board 5 5; man k 0 1, 1 1; man q 0 1 ride 4; royal k;"), 2);
        c.due("told(5)", c.x.told(5), 0);
        c.due("moves(0)", c.x.moves(0), Check.UNKNOWN);
        c.due("game(0, 0)", c.x.game(0, 0), Check.UNKNOWN);
        c.due("beforeAt(0)", c.x.beforeAt(0), Check.UNKNOWN);
        c.due("refutes(0)", c.x.refutes(0), Check.NONE);
        c.due("THE OUT stays", c.out(), "4k3/8/8/8/8/8/8/4K2R w - - - 00 0");
        c.due("solve", c.solve("KQk"), 2);
        c.due("tally", c.x.tally(0, 0) >= 0 ? 1 : 0, 1);
        c.due("rules", c.rules("board 5 5; man k 0 1, 1 1; man q 0 1 ride 4; royal k;"), 2);
        c.due("tally", c.x.tally(0, 0), Check.STATE);
    }

    private static void rulesStay() {
        Check c = new Check("rules stay");
        c.position(Check.START);
        c.x.start(3, 0);
        c.rulesFault("board 3 3; man k 0 1; royal k; |nothing");
        c.due("told(0)", c.x.told(0), 8);
        c.due("told(2)", c.x.told(2), 6);
        c.due("moves(0)", c.x.moves(0), 20);
        c.due("game(3, 0)", c.x.game(3, 0), 0);
    }

    private static void tapeIsUsedUp() {
        Check c = new Check("the tape is used up");
        c.tape("nothing").x.rules();
        c.due("rules", c.x.told(7), 0);
        c.tape("nothing").x.position();
        c.due("position", c.x.told(7), 0);
        c.tape("nothing").x.hear(0);
        c.due("hear", c.x.told(7), 0);
        c.tape("nothing").x.solve();
        c.due("solve", c.x.told(7), 0);
        c.tape("nothing").x.moves(0);
        c.due("moves", c.x.told(7), 7);
        c.due("out(-1)", c.x.out(-1), Check.NONE);
        c.position(Check.START);
        c.x.write(0);
        c.due("out(0)", c.x.out(0), 'r');
        c.due("out(last)", c.x.out(c.x.told(6) - 1), '0');
        c.due("out(behind)", c.x.out(c.x.told(6)), Check.NONE);
        c.due("write(1)", c.x.write(1), Check.UNKNOWN);
        c.due("THE OUT stays", c.out(), Check.START);
    }
}
