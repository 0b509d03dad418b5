import java.util.ArrayList;
import java.util.List;

/** Promises 1 to 6 and section 1 at their edges: what is too small, too large, empty, full, or refused. */
public final class EdgesOfRulesTest {
    private static final int LEAST = Integer.MIN_VALUE, MOST = Integer.MAX_VALUE;

    public static void main(String[] args) {
        newObject();
        feed();
        end();
        tapeIsUsedUp();
        tapeStays();
        tokens();
        boards();
        sentences();
        menAndSteps();
        steps();
        royalAndBecomes();
        others();
        hills();
        firstFault();
        wholeTape();
        rulesForget();
        rulesStay();
        told();
        out();
        Check.finish();
    }

    /** What a new object answers to a text of RULES. */
    private static void rules(String about, String text, int want) {
        Check c = new Check(about);
        c.due("rules " + text, c.rules(text), want);
    }

    /** RULES that can stand, each with the number of its men. */
    private static void stand(String about, int men, String... texts) {
        for (String t : texts) rules(about, t, men);
    }

    /** Texts with | where the FAULT is, each behind what stands ahead. */
    private static void faults(String about, String ahead, String... texts) {
        for (String t : texts) new Check(about).rulesFault(ahead + t);
    }

    /** Promise 1: "The first RULES; no positions, no games, nothing solved; THE TAPE and THE OUT are empty." */
    private static void newObject() {
        Check c = new Check("promise 1");
        GameRules x = c.x;
        c.due("no positions", x.told(5), 0);
        for (int p : new int[] {0, 1, 59}) {
            c.due("write", x.write(p), Check.UNKNOWN);
            c.due("drop", x.drop(p), Check.UNKNOWN);
        }
        for (int g = 0; g < 8; g++) c.due("no games", x.game(g, 0), Check.UNKNOWN);
        c.due("nothing found", x.beforeAt(0), Check.UNKNOWN);
        c.due("nothing solved", x.tally(0, 0), Check.STATE);
        c.due("no problem", x.key(0), Check.NONE);
        c.due("no problem", x.refutes(0), Check.NONE);
        c.due("THE OUT is empty", x.told(6), 0);
        c.due("THE OUT is empty", x.out(0), Check.NONE);
        c.due("THE TAPE is empty", x.told(7), 0);
        c.due("an empty TAPE is no RULES", x.rules(), -1);
        c.due("an empty TAPE is no position", x.position(), -200);
        c.due("the first RULES have catch", x.solve(), Check.STATE);
        c.due("the first RULES", x.told(0) * 8 + x.told(1), 72);
        c.due("men", x.told(2), 6);
        c.due("the least free place", c.position("8/P7/8/8/8/8/7p/8 w - - - 00 0"), 0);
        c.due("becomes, as told", c.texts(0), "a8=Q a8=R a8=B a8=N");
        // Each object has a state of its own.
        Check d = new Check("promise 1, a second object");
        c.rules("board 3 3;");
        d.due("the first RULES", d.x.told(2), 6);
        d.due("no positions", d.x.told(5), 0);
    }

    /** Promise 2: "Twenty bytes come behind THE TAPE, of each number the highest first [..] more than 1200." */
    private static void feed() {
        Check c = new Check("promise 2");
        // board 3 3;man a 0 1; in five numbers
        c.due("an empty TAPE", c.x.feed(0x626f6172, 0x64203320, 0x333b6d61, 0x6e206120, 0x3020313b), 20);
        c.due("bytes in order", c.x.rules(), 1);
        c.due("a row of -1", c.x.feed(-1, -1, -1, -1, -1), 20);
        c.due("bytes of 255 are no TOKENS", c.x.rules(), -1);
        c.due("the least number", c.x.feed(0x62202020, LEAST, 0, 0, 0), 20);
        c.due("the FAULT is the WORD", c.x.rules(), -1);
        for (int i = 1; i <= 60; i++) c.due("feed", c.x.feed(0x20202020, 0x20202020, 0x20202020, 0x20202020, 0x20202020), 20 * i);
        c.due("1200 and 20", c.x.feed(0, 0, 0, 0, 0), Check.ROOM);
        c.due("it is refused whole", c.x.told(7), 1200);
        c.due("and nothing was changed", c.x.rules(), -1201);
        for (int i = 1; i <= 60; i++) c.x.feed(0x20202020, 0x20202020, 0x20202020, 0x20202020, 0x20202020);
        c.x.end(1181);
        c.due("1181 and 20", c.x.feed(0x41414141, 0, 0, 0, 0), Check.ROOM);
        c.due("refused whole", c.x.told(7), 1181);
        c.due("no byte came", c.x.rules(), -1182);
        for (int i = 1; i <= 60; i++) c.x.feed(0x20202020, 0x20202020, 0x20202020, 0x20202020, 0x20202020);
        c.x.end(1180);
        c.due("1180 and 20", c.x.feed(0x41414141, 0, 0, 0, 0), 1200);
        c.due("they came behind the 1180", c.x.rules(), -1181);
    }

    /** Promise 3: "cut behind its first n bytes: n. OUTSIDE: n is below 0, or more than it has." */
    private static void end() {
        Check c = new Check("promise 3");
        c.due("0 of none", c.x.end(0), 0);
        for (int n : new int[] {1, -1, LEAST, MOST}) c.due("end of none", c.x.end(n), Check.OUTSIDE);
        c.x.feed(0x626f6172, 0x64203320, 0x333b6d61, 0x6e206120, 0x3020313b);
        for (int n : new int[] {21, -1, LEAST, MOST}) c.due("end of 20", c.x.end(n), Check.OUTSIDE);
        c.due("a refusal cuts nothing", c.x.told(7), 20);
        c.due("all of it", c.x.end(20), 20);
        c.due("less", c.x.end(10), 10);
        c.due("what was cut is gone", c.x.end(11), Check.OUTSIDE);
        c.due("the first ten stand", c.x.rules(), 0);
        c.x.feed(0x626f6172, 0x64203320, 0x333b6d61, 0x6e206120, 0x3020313b);
        c.x.end(10);
        c.due("more comes behind the cut", c.x.feed(0x68616e64, 0x3b202020, 0x20202020, 0x20202020, 0x20202020), 30);
        c.due("and stands", c.x.rules(), 0);
        c.due("the TAPE is used up", c.x.end(1), Check.OUTSIDE);
    }

    /** "a call that reads it uses it up, whatever it answers" */
    private static void tapeIsUsedUp() {
        Check c = new Check("the tape is used up");
        String[] texts = {"board 3 3;", "", "x", "board 3 3; x"};
        for (String t : texts) {
            c.rules(t);
            c.due("rules " + t, c.x.told(7), 0);
        }
        c.rules("board 3 3; man k 0 1; man q 0 1 ride 2; royal k;");
        String[] positions = {"3/3/3 w - - - 00 0", "", "3/3/3 w", "KK1/3/3 w - - - 00 0", "Kk1/3/3 w - - - 00 0"};
        int[] answers = {0, -200, -207, -2, -6};
        for (int i = 0; i < positions.length; i++) {
            c.due("position " + positions[i], c.position(positions[i]), answers[i]);
            c.due("position " + positions[i], c.x.told(7), 0);
        }
        String[] heard = {"Kb1", "", "nonsense"};
        for (String t : heard) {
            c.hear(0, t);
            c.due("hear " + t, c.x.told(7), 0);
        }
        c.due("hear, UNKNOWN", c.hear(1, "Kb1"), Check.UNKNOWN);
        c.due("hear, UNKNOWN", c.x.told(7), 0);
        String[] sets = {"Kk", "", "K", "Kx", "KQQQQQ"};
        for (String t : sets) {
            c.solve(t);
            c.due("solve " + t, c.x.told(7), 0);
        }
        Check d = new Check("the tape is used up");
        d.due("solve, STATE", d.solve("Kk"), Check.STATE);
        d.due("solve, STATE", d.x.told(7), 0);
        for (int i = 0; i < 60; i++) d.position("8/8/8/8/8/8/8/8 w - - - 00 0");
        d.due("position, ROOM", d.position("8/8/8/8/8/8/8/8 w - - - 00 0"), Check.ROOM);
        d.due("position, ROOM", d.x.told(7), 0);
        Check e = new Check("the tape is used up", "board 8 8; man a 0 1; man b 0 1;");
        e.due("solve, ROOM", e.solve("AABB"), Check.ROOM);
        e.due("solve, ROOM", e.x.told(7), 0);
    }

    /** No other call reads THE TAPE. */
    private static void tapeStays() {
        Check c = new Check("the tape stays");
        c.position("4k3/8/8/8/8/8/8/4K3 w - - - 00 0");
        c.tape("Kd1");
        GameRules x = c.x;
        int[] answers = {x.told(0), x.out(0), x.write(0), x.same(0, 0) ? 1 : 0, x.at(0, 0), x.figure(0, 0), x.attacked(0, 0, 0),
            x.moves(0), x.move(0, 0, 0), x.go(0, 0), x.rows(0, 2), x.ended(0), x.result(0), x.say(0, 0), x.start(0, 0), x.add(0, 0),
            x.back(0), x.game(0, 0), x.played(0, 0), x.now(0), x.book(0, 0), x.sees(0, 0, 0), x.view(0, 0), x.before(0), x.beforeAt(0),
            x.worth(0), x.tally(0, 0), x.problem(0, 0, 0, 1), x.key(0), x.refutes(0), x.drop(1)};
        c.due("calls", answers.length, 31);
        c.due("bytes", x.told(7), 3);
        c.due("heard", x.hear(0), 0);
    }

    /** "WORDS (letters a .. z, as many as stand together), NUMBERS (digits, as many as stand together, one or two [..])" */
    private static void tokens() {
        stand("tokens", 0, "board3 3;", "board 3 3;hand;must;shy;", "\n\n board\n3\n \n3\n;\n", "board 03 08;", "board 3 3 ;hand ; ");
        stand("tokens", 1, "board 3 3;man a1-1;", "board 3 3;man a-1-1;", "board 3 3;man a 00 01;", "board 3 3;man a -00 -07;",
            "board 3 3;man a fore0 1ride2from3,to1 1;", "board 3 3;man k 0 1;royal k;hill a01c 3;", "board 3 3;man a 07 -7 ride 02 from 03;");
        faults("tokens", "", "board 3 3;|handmust;", "board |33;", "board 3|-3;", "board |- 3 3;", "board |--3 3;", "board 3 3;man a |--1 1;",
            "board 3 3;man a 1 |-;", "board 3 3;man a |- 1 1;", "board 3 3;man a |000 1;", "board 3 3;man a |-000 1;", "board 3 3;man a 1 |001;",
            "board 3 3;man a 1 |-;1;", "board 3 3;man a |-a 1;", "board 3 3;checks |009;", "board |\t3 3;", "board 3 3;|\r", "board 3 3;|\0",
            "board 3 3;|\u00a0", "board 3 3;|\u00ff", "board 3 3;|Hand;", "board 3 3;hand|.", "board 3 3;man a 1|+1;", "board 3 3;man a 1|/1;",
            "board 3 3;man a |:1;", "board 3 3;man |`;", "board 3 3;man |{;", "board 3 3;man |@;");
        // At the end of the text it is the length, blanks counted.
        faults("tokens", "", "|", " |", "\n\n|", "board  |", "board 3  |", "board 3 3\n|", "board 3 3; hand |", "board 3 3; man|", "board 3 3; man a\n\n|",
            "board 3 3; man a to |", "board 3 3; man a 1|", "board 3 3; man a 1 1 |", "board 3 3; man a 1 1 ride|", "board 3 3; man a 1 1 from |",
            "board 3 3; man a 1 1,|", "board 3 3; becomes|", "board 3 3; blast |", "board 3 3; checks|", "board 3 3; hill |", "board 3 3; hill a|",
            "board 3 3; hill a1|", "board 3 3; stale |", "board 3 3; bare won|");
    }

    /** "board F R ; (3 .. 8 files, 3 .. 8 ranks)" */
    private static void boards() {
        for (int f = 3; f <= 8; f++) {
            Check c = new Check("boards");
            for (int r = 3; r <= 8; r++) {
                c.due("rules", c.rules("board " + f + " " + r + "; man a 0 1;"), 1);
                c.due("files", c.x.told(0), f);
                c.due("ranks", c.x.told(1), r);
                String empty = ("/" + f).repeat(r).substring(1);
                c.due("as many ranks", c.position(empty + " w - - - 00 0"), 0);
                c.due("no more ranks", c.position(empty + "/" + f + " w - - - 00 0"), -200 - empty.length());
                c.due("the last square", c.x.at(0, f * r - 1), Check.NONE);
                c.due("no more squares", c.x.at(0, f * r), Check.OUTSIDE);
            }
        }
        Check c = new Check("boards too small and too large");
        for (int n : new int[] {0, 1, 2, 9, 10, 99, -3, -8}) {
            c.rulesFault("board |" + n + " 8;");
            c.rulesFault("board 8 |" + n + ";");
        }
        faults("boards too small and too large", "", "board |;", "board 8 |;", "board 8 8 |8;", "board 8|,8;", "|man a 0 1; board 8 8;", "board|; 8 8", "board 8 8; |board 8 8;");
        c.due("the first RULES stay", c.x.told(2), 6);
    }

    /** "then SENTENCES in any order, each one ended by ;" */
    private static void sentences() {
        stand("sentences", 0, "board 3 3;", "board 3 3; bare won; stale lost; hill a1; checks 1; blast; shy; must; hand;");
        stand("sentences", 2, "board 3 3; hill b2; man a 0 1; must; man b 0 1; becomes a b; hand;", "board 3 3; hand; man a 0 1; royal a; man b 0 1; castle b;");
        faults("sentences", "board 3 3;", "|;", "hand;|;", "hand |must;", "hand|", "hand ;|,", "|a;", "|won;", "|to;", "|1;", "|,", "|-;");
    }

    /** "12 at most: no letter of a 13th can stand", "1 to 8 STEPS (no , behind the 8th)" */
    private static void menAndSteps() {
        Check c = new Check("men and steps");
        StringBuilder twelve = new StringBuilder("board 3 3;");
        for (char m = 'z'; m > 'n'; m--) twelve.append("man ").append(m).append(" 0 1;");
        c.due("twelve", c.rules(twelve.toString()), 12);
        c.due("the last one's number", c.x.at(c.position("3/oz1/3 w - - - 00 0"), 3), 23);
        c.due("the first one's number", c.x.at(0, 4), 1);
        faults("men and steps", twelve.toString(), "man |a 0 1;", "man |z 0 1;", "man |;", "man |ab 0 1;", "man |7;", "hand; man |a 0 1;");
        String eight = "man a 0 1,0 2,0 3,0 4,0 5,0 6,0 7,1 1";
        c.due("eight", c.rules("board 3 3;" + eight + ";"), 1);
        c.due("eight, and a man more", c.rules("board 3 3;" + eight + ";man b 0 1;"), 2);
        faults("men and steps", "board 3 3;", eight + "|,1 2;", eight + "|,;", eight + " |1 2;", eight + "|", "man a |;", "man a|", "man a |, 0 1;", "man a 0 1,|;",
            "man a 0 1,|,0 1;", "man a 0 1;man |a 1 1;", "man |ab 0 1;", "man |3;", "man |, 0 1;", "man a |b 0 1;");
        Check d = new Check("the eighth step leads", "board 8 8; man a to 0 7, to 0 7, to 0 7, to 0 7, to 0 7, to 0 7, to 0 7, to 1 2;");
        d.due("moves", d.x.moves(d.position("a7/8/8/8/3A4/8/8/8 w - - - 00 0")), 8);
    }

    /** A STEP: its WORDS, "-7 .. 7, not both 0", "[ride n] (2 .. 7)", "[from r] (1 .. R)" */
    private static void steps() {
        String b = "board 3 5;man a ";
        for (int n = -9; n <= 9; n++) {
            boolean stands = n >= -7 && n <= 7;
            rules("a is " + n, b + n + " 1;", stands ? 1 : -1 - b.length());
            rules("b is " + n, b + "1 " + n + ";", stands ? 1 : -1 - b.length() - 2);
            rules("b is " + n + " behind 0", b + "0 " + n + ";", stands && n != 0 ? 1 : -1 - b.length() - 2);
        }
        for (int n = 0; n <= 9; n++) {
            rules("ride " + n, b + "0 1 ride " + n + ";", n >= 2 && n <= 7 ? 1 : -1 - b.length() - 9);
            rules("from " + n, b + "0 1 from " + n + ";", n >= 1 && n <= 5 ? 1 : -1 - b.length() - 9);
        }
        stand("steps", 1, b + "0 -1;", b + "-7 7;", b + "0 1 ride 7 from 5;", b + "to fore pass catch 0 1;", b + "catch over fore on 0 1;", b + "pass on 0 1;");
        faults("steps", b, "0 |0;", "-0 |-0;", "00 |0;", "0 1 ride |-2;", "0 1 ride |;", "0 1 ride |to;", "0 1 from |-1;", "0 1 from |;", "0 1 from 1 |ride 2;",
            "0 1 ride 2 |ride 2;", "0 1 from 1 |from 1;", "0 1 |fore;", "0 1 |3;", "to |to 0 1;", "on |on 0 1;", "fore |fore 0 1;", "over |over 0 1;",
            "pass |pass 0 1;", "catch |catch 0 1;", "to |on 0 1;", "on |to 0 1;", "over |pass 0 1;", "pass |over 0 1;", "to fore catch |on 0 1;",
            "over catch fore |pass 0 1;", "to fore over catch |to 0 1;", "|ride 2 0 1;", "|from 2 0 1;", "|tofore 0 1;", "|t 0 1;", "to|;", "to|,0 1;", "1|;", "1|,1;",
            "1 |to 1;");
        // The words and numbers of a STEP are asked for anew in the next one.
        stand("steps", 1, b + "to 0 1 ride 2 from 1, to 0 1 ride 2 from 1, on 0 1, over 1 1, pass 1 1;");
    }

    /** "royal L: the ROYAL man, which becomes none, and which none becomes. becomes L M .. : 1 to 6 M, each once [..]" */
    private static void royalAndBecomes() {
        String b = "board 3 3;man a 0 1;man b 0 1;man c 0 1;man d 0 1;man e 0 1;man f 0 1;man g 0 1;man h 0 1;";
        stand("royal and becomes", 8, b + "royal a;", b + "becomes a b;", b + "becomes a b c d e f g;", b + "becomes a c;becomes b c;", b + "becomes a b;royal c;", b + "royal c;becomes a b;",
            b + "becomes a b c;becomes d c b;becomes e b;becomes f b;becomes g b;becomes h b;");
        Check c = new Check("royal and becomes", b + "becomes h b;becomes a b;");
        c.due("the PLAIN man is that of the first becomes", c.x.told(4), 7);
        c.due("no ROYAL man", c.x.told(3), Check.NONE);
        faults("royal and becomes", b, "royal |;", "royal |i;", "royal |ab;", "royal |1;", "royal a |b;", "royal a;|royal a;", "royal a;|royal b;", "becomes a b;royal |a;",
            "becomes a b;royal |b;", "becomes a b c;royal |c;", "royal a;becomes |a b;", "royal a;becomes b |a;", "royal a;becomes b c |a;", "becomes |;", "becomes |i a;",
            "becomes a |;", "becomes a |i;", "becomes a |a;", "becomes a b |a;", "becomes a b |b;", "becomes a b c |b;", "becomes a b c d e f g |h;",
            "becomes a b c d e f g|, ;", "becomes a b;becomes |a c;", "becomes a b;becomes |b c;", "becomes a b c;becomes |c d;", "becomes a b;becomes c |a;",
            "becomes a b|,c;", "becomes a |1;", "becomes a b |1;", "becomes a |bc;", "becomes |ab c;");
        faults("royal and becomes", "board 3 3;", "royal |k;man k 0 1;", "becomes |a b;man a 0 1;man b 0 1;", "man a 0 1;becomes a |b;man b 0 1;");
    }

    /** castle, hand, must, shy, blast, checks, stale, bare: "All but man and becomes are told once at most." */
    private static void others() {
        String b = "board 3 3;man a 0 1;man b 0 1;man c 0 1;";
        stand("others", 3, b + "royal a;castle b;", b + "royal a;hand;castle c;", b + "becomes b c;royal a;castle b;", b + "blast;", b + "blast a;", b + "blast c b a;",
            b + "royal a;blast a;", b + "stale won;bare won;", b + "stale lost;bare lost;");
        faults("others", b, "|castle b;", "|castle b;royal a;", "royal a;castle |a;", "royal a;castle |d;", "royal a;castle |;", "royal a;castle b |c;", "royal a;castle |bc;",
            "royal a;castle b;|castle c;", "hand |1;", "must |a;", "shy |shy;", "hand;|hand;", "must;|must;", "shy;|shy;", "blast;|blast;", "blast a;|blast b;", "blast |d;",
            "blast a |a;", "blast a b c |a;", "blast a |1;", "blast a|,b;", "blast |ab;", "stale |;", "stale |drawn;", "stale won|2;", "stale won |lost;",
            "stale won;|stale won;", "stale won;|stale lost;", "bare |;", "bare |win;", "bare lost |won;", "bare lost;|bare won;", "stale |bare won;");
        for (int n = -1; n <= 11; n++) rules("checks " + n, "board 3 3;checks " + n + ";", n >= 1 && n <= 9 ? 0 : -1 - 17);
        faults("others", b, "checks |;", "checks |a;", "checks 1 |1;", "checks 1;|checks 1;", "checks 1|,1;");
        StringBuilder twelve = new StringBuilder("board 3 3;");
        StringBuilder firm = new StringBuilder("blast");
        for (char m = 'a'; m < 'm'; m++) {
            twelve.append("man ").append(m).append(" 0 1;");
            firm.append(' ').append(m);
        }
        rules("all twelve are FIRM", twelve + "" + firm + ";", 12);
        faults("others", twelve + "" + firm, " |l;", " |m;", " |1;", "|,");
    }

    /** "hill, then one square or more [..], each once", "Of squares [..] the second NUMBER, where that makes it wrong" */
    private static void hills() {
        stand("hills", 0, "board 4 3;hill a1;", "board 4 3;hill d3;", "board 4 3;hill d 3 a\n1;", "board 4 3;hill d3a1b2;", "board 8 8;hill h8;");
        StringBuilder all = new StringBuilder("hill");
        for (int s = 0; s < 64; s++) all.append(' ').append((char) ('a' + s % 8)).append(1 + s / 8);
        rules("all squares", "board 8 8;" + all + ";", 0);
        faults("hills", "board 8 8;" + all, " a|1;", " h|8;", " h|9;", " |i1;", " |1;", "|,");
        faults("hills", "board 4 3;", "hill |;", "hill |e1;", "hill |z9;", "hill a|0;", "hill a|4;", "hill a|-1;", "hill a|;", "hill |ab1;", "hill a |b 1;",
            "hill |1;", "hill a1 a|1;", "hill a1 b1 c1 b|1;", "hill a1 b|4;", "hill a1 |e1;", "hill a1|,b2;", "hill a1 b|;", "hill a1;|hill b1;", "hill a|11;", "hill a|111;");
    }

    /** "A FAULT is the first TOKEN that can't stand" */
    private static void firstFault() {
        faults("the first fault", "", "board |2 2;man", "board 3 3;man |3 9;?", "board 3 3;man a to |on on 0 0;", "board 3 3;man a |8 8;", "board 3 3;man a 0 |8 ride 9;", "board 3 3;|castle a;hill z9;");
    }

    /** RULES of 1200 bytes, all that THE TAPE can have. */
    private static void wholeTape() {
        Check c = new Check("the whole tape");
        String head = "board 3 3;";
        String tail = "man a 0 1;";
        String blanks = " ".repeat(1200 - head.length() - tail.length());
        c.due("1200 bytes", c.tape(head + blanks + tail).x.told(7), 1200);
        c.due("rules", c.x.rules(), 1);
        c.due("a FAULT at the last byte", c.rules(head + blanks + "man a 0 1?"), -1200);
        c.due("a FAULT at the end", c.rules(head + blanks + "man a 0  1"), -1201);
        c.due("blanks behind", c.rules(head + tail + blanks), 1);
        c.due("blanks ahead", c.rules(blanks + head + tail), 1);
    }

    /** Promise 4: "then there are no positions, no games, nothing is solved or found" */
    private static void rulesForget() {
        String rules = "board 4 4; man k 0 1, 1 1; man q 0 1 ride 3, 1 1 ride 3; royal k;";
        Check c = new Check("promise 4", rules);
        c.position("1k2/4/4/K2Q w - - - 00 0");
        c.x.start(0, 0);
        c.x.start(7, 0);
        c.x.add(7, 0);
        c.due("found", c.x.before(0) > 0 ? 1 : 0, 1);
        c.due("solved", c.solve("KQk"), 2);
        c.due("a problem", c.x.problem(0, 0, 0, 1) >= 0 ? 1 : 0, 1);
        c.due("the same RULES", c.rules(rules), 2);
        c.due("no positions", c.x.told(5), 0);
        c.due("no positions", c.x.write(0), Check.UNKNOWN);
        c.due("no games", c.x.game(0, 0), Check.UNKNOWN);
        c.due("no games", c.x.game(7, 0), Check.UNKNOWN);
        c.due("no games", c.x.back(7), Check.UNKNOWN);
        c.due("no games", c.x.played(7, 0), Check.UNKNOWN);
        c.due("nothing found", c.x.beforeAt(0), Check.UNKNOWN);
        c.due("nothing solved", c.x.tally(0, 0), Check.STATE);
        c.due("no key", c.x.key(0), Check.NONE);
        c.due("no refutes", c.x.refutes(0), Check.NONE);
        c.due("the least place", c.position("1k2/4/4/K2Q w - - - 00 0"), 0);
        c.due("THE BOOK is empty", c.x.book(0, Check.NONE), 0);
        c.due("nothing solved", c.x.worth(0), Check.STATE);
        c.due("no key of the new one", c.x.key(0), Check.NONE);
    }

    /** Promise 4: "-1 less the place of the FAULT: the RULES stay." */
    private static void rulesStay() {
        List<String> wrong = new ArrayList<>(List.of("", "board 3 3", "board 3 3; man k 0 1; royal k; must; hand; shy; blast; checks 1; hill a1; stale won; bare won; x",
            "board 3 3; man k 0 1; man k"));
        for (String t : wrong) {
            Check c = new Check("the rules stay", "board 4 4; man k 0 1, 1 1; man p fore 0 1; man q 0 1 ride 3, 1 1 ride 3; royal k; becomes p q;");
            c.position("k3/4/P3/K3 w - - - 00 0");
            c.x.start(0, 0);
            c.x.before(0);
            c.solve("Kk");
            c.x.problem(0, 2, 0, 1);
            int[] want = new int[6];
            for (int i = 0; i < 6; i++) want[i] = c.x.told(i);
            String texts = c.texts(0);
            c.due("a FAULT", c.rules(t) < 0 ? 1 : 0, 1);
            for (int i = 0; i < 6; i++) c.due("told(" + i + ")", c.x.told(i), want[i]);
            c.due("moves", c.texts(0), texts);
            c.due("game", c.x.game(0, 0), 0);
            c.due("solved", c.x.tally(0, 0) > 0 ? 1 : 0, 1);
            c.due("found", c.x.beforeAt(0), 1);
            c.due("new positions are read by them", c.position("4/2Q1/k3/3K b - - - 00 0"), 2);
        }
    }

    /** Promise 5: "What = 0 files, 1 ranks, [..] 7 bytes of THE TAPE. OUTSIDE." */
    private static void told() {
        Check c = new Check("promise 5", "board 3 8; man a 0 1; man k 0 1; royal k; man b 0 1; man p 0 1; becomes p a; becomes b a;");
        int[] want = {3, 8, 4, 1, 3, 0, 0, 0};
        for (int i = 0; i < 8; i++) c.due("told(" + i + ")", c.x.told(i), want[i]);
        for (int i : new int[] {-1, 8, 9, LEAST, MOST}) c.due("told(" + i + ")", c.x.told(i), Check.OUTSIDE);
        for (int i = 1; i <= 60; i++) c.due("positions", c.position("3/3/3/3/3/3/3/3 w - - - 00 0") + 1 - c.x.told(5), 0);
        c.due("positions", c.x.told(5), 60);
        c.x.drop(0);
        c.x.drop(59);
        c.due("positions", c.x.told(5), 58);
        c.due("no men", c.rules("board 3 3;"), 0);
        c.due("no men", c.x.told(2), 0);
        c.due("no ROYAL man", c.x.told(3), Check.NONE);
        c.due("no PLAIN man", c.x.told(4), Check.NONE);
    }

    /** Promise 6: "Byte i of THE OUT; NONE." */
    private static void out() {
        Check c = new Check("promise 6");
        for (int i : new int[] {-1, 0, 1, LEAST, MOST}) c.due("an empty OUT", c.x.out(i), Check.NONE);
        c.position("4k3/8/8/8/8/8/8/4K3 w - - - 00 0");
        c.due("write", c.x.write(0), 32);
        c.due("the first byte", c.x.out(0), '4');
        c.due("the last byte", c.x.out(31), '0');
        for (int i : new int[] {-1, 32, LEAST, MOST}) c.due("out(" + i + ")", c.x.out(i), Check.NONE);
        c.due("a shorter text", c.x.say(0, 0), 3);
        c.due("its last byte", c.x.out(2), '1');
        c.due("nothing of the longer one is left", c.x.out(3), Check.NONE);
        c.due("bytes", c.x.told(6), 3);
    }
}
