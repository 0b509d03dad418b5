import java.util.Arrays;

/** A house for games of the chess kind: rules, positions, moves, games, endings and problems. */
public final class GameRules {
    public static final int NONE = -1, OUTSIDE = -101, UNKNOWN = -102, STATE = -103, ROOM = -104;

    private static final int TAPE_ROOM = 1200;
    private static final int FEED = 20;
    private static final int OUT_ROOM = 512;
    private static final int PLACES = 60;
    private static final int GAMES = 8;
    private static final int LONGEST_GAME = 300;
    private static final int GAME_ROOM = LONGEST_GAME + 1;

    private static final int MOST_MEN = 12;
    private static final int MOST_STEPS = 8;
    private static final int MOST_WORDS = 6;
    private static final int MOST_BECOME = 6;
    private static final int BOARD = 64;
    private static final int CODES = 2 * MOST_MEN;
    // 46 men of one side that all may become others, with a full HAND, come to less than 3000 moves.
    private static final int MOST_MOVES = 4096;
    private static final int MOST_IN_HAND = 16;
    private static final int MOST_CLOCK = 200;
    private static final int MOST_ROWS = 100000;
    private static final int MOST_BEFORE = 3000;
    private static final int MOST_SIZE = 600000;
    private static final int SURE = 1000000;
    private static final int NO_MAN = 15;

    private static final int TO = 1, ON = 2, FORE = 4, OVER = 8, PASS = 16, CATCH = 32;
    private static final int HAND = 1, MUST = 2, SHY = 4, BLAST = 8;
    private static final int WON = 1, LOST = 2;
    private static final int STEP_MOVE = 0, CATCH_MOVE = 1, CASTLING = 2, DROP = 3;
    private static final int DRAWN = 2;

    // A single bit times SPREAD has six bits on top that no other single bit has there: these tell its square.
    private static final long SPREAD = 0x03f79d71b4cb0a89L;
    private static final int[] SQUARE_OF = {
        0, 1, 48, 2, 57, 49, 28, 3, 61, 58, 50, 42, 38, 29, 17, 4,
        62, 55, 59, 36, 53, 51, 43, 22, 45, 39, 33, 30, 24, 18, 12, 5,
        63, 47, 56, 27, 60, 41, 37, 16, 54, 35, 52, 21, 44, 32, 23, 11,
        46, 26, 40, 15, 34, 20, 31, 10, 25, 14, 19, 9, 13, 8, 7, 6
    };

    private static final String FIRST_MEN =
        "board 8 8; man k 0 1, 1 1; man q 0 1 ride 7, 1 1 ride 7; man r 0 1 ride 7; man b 1 1 ride 7; man n 1 2;";
    private static final String FIRST_PAWN =
        "man p to fore 0 1, to fore pass 0 1 ride 2 from 2, on fore catch 1 1, on fore catch -1 1;";
    private static final String FIRST_REST = "royal k; becomes p q r b n; castle r;";

    private final Text tape = new Text(TAPE_ROOM);
    private final Text out = new Text(OUT_ROOM);
    private final Law law = new Law();
    private final Law trial = new Law();
    private final LawReader reader = new LawReader();
    private final Ways ways = new Ways();
    private final Referee referee = new Referee(law, ways);
    private final Scribe scribe = new Scribe(law);
    private final Speaker speaker = new Speaker(law, referee);
    private final Retro retro = new Retro(law, ways, referee);
    private final Endings endings = new Endings(law, ways, referee);
    private final Problems problems = new Problems(referee);
    private final int[] list = new int[MOST_MOVES];
    private final Position[] places = new Position[PLACES];
    private final boolean[] used = new boolean[PLACES];
    private final Position[] line = new Position[GAMES * GAME_ROOM];
    private final int[] made = new int[GAMES * GAME_ROOM];
    private final int[] lengths = new int[GAMES];

    public GameRules() {
        for (int p = 0; p < PLACES; p++) {
            places[p] = new Position();
        }
        Arrays.fill(lengths, NONE);
        tape.appendAll(FIRST_MEN);
        tape.appendAll(FIRST_PAWN);
        tape.appendAll(FIRST_REST);
        reader.read(tape, law);
        ways.lay(law);
        tape.clear();
    }

    public int feed(int a, int b, int c, int d, int e) {
        if (tape.length + FEED > TAPE_ROOM) {
            return ROOM;
        }
        tape.appendNumber(a);
        tape.appendNumber(b);
        tape.appendNumber(c);
        tape.appendNumber(d);
        tape.appendNumber(e);
        return tape.length;
    }

    public int end(int n) {
        if (n < 0 || n > tape.length) {
            return OUTSIDE;
        }
        tape.length = n;
        return n;
    }

    public int rules() {
        // A trial comes first, so that a FAULT leaves the RULES as they are.
        boolean fits = reader.read(tape, trial);
        int answer = -1 - reader.faultPlace();
        if (fits) {
            reader.read(tape, law);
            ways.lay(law);
            forgetAll();
            answer = law.men;
        }
        tape.clear();
        return answer;
    }

    public int told(int what) {
        switch (what) {
            case 0: return law.files;
            case 1: return law.ranks;
            case 2: return law.men;
            case 3: return law.royal;
            case 4: return law.plain;
            case 5: return countPlaces();
            case 6: return out.length;
            case 7: return tape.length;
            default: return OUTSIDE;
        }
    }

    public int out(int i) {
        return out.byteAt(i);
    }

    public int position() {
        int place = freePlace();
        int answer = ROOM;
        if (place != NONE) {
            Position p = places[place];
            int fault = scribe.read(tape, p);
            int rule = fault == NONE ? referee.faultOf(p) : 0;
            used[place] = fault == NONE && rule == 0;
            answer = fault != NONE ? -200 - fault : rule != 0 ? -rule : place;
        }
        tape.clear();
        return answer;
    }

    public int drop(int p) {
        if (!isPlace(p)) {
            return UNKNOWN;
        }
        used[p] = false;
        problems.forget(p);
        return 1;
    }

    public int write(int p) {
        if (!isPlace(p)) {
            return UNKNOWN;
        }
        out.clear();
        scribe.writeAll(places[p], out);
        return out.length;
    }

    public boolean same(int p, int q) {
        return isPlace(p) && isPlace(q) && referee.areAlike(places[p], places[q]);
    }

    public int at(int p, int square) {
        if (!isSquare(square)) {
            return OUTSIDE;
        }
        return isPlace(p) ? places[p].on[square] : UNKNOWN;
    }

    public int figure(int p, int what) {
        if (what < 0 || what > 8) {
            return OUTSIDE;
        }
        if (!isPlace(p)) {
            return UNKNOWN;
        }
        Position of = places[p];
        switch (what) {
            case 0: return of.side;
            case 1: return of.clock;
            case 2: return of.checks[0];
            case 3: return of.checks[1];
            case 4: return Long.bitCount(of.rights);
            case 5: return of.pass == 0 ? NONE : of.passSquare(0);
            case 6: return of.handSize(0);
            case 7: return of.handSize(1);
            default: return Long.bitCount(of.occupied());
        }
    }

    public int attacked(int p, int square, int side) {
        if (!isSquare(square) || !isSide(side)) {
            return OUTSIDE;
        }
        if (!isPlace(p)) {
            return UNKNOWN;
        }
        return referee.isHit(places[p], square, side) ? 1 : 0;
    }

    public int moves(int p) {
        return isPlace(p) ? listMoves(p) : UNKNOWN;
    }

    public int move(int p, int i, int what) {
        if (what < 0 || what > 5) {
            return OUTSIDE;
        }
        if (i < 0 || i >= listMoves(p)) {
            return UNKNOWN;
        }
        int move = list[i];
        switch (what) {
            case 0: return Referee.kindOf(move) == DROP ? NONE : Referee.leftBy(move);
            case 1: return Referee.comeTo(move);
            case 2: return Referee.manOf(move);
            case 3: return Referee.becomes(move);
            case 4: return Referee.takenBy(move);
            default: return Referee.kindOf(move);
        }
    }

    public int go(int p, int i) {
        if (i < 0 || i >= listMoves(p)) {
            return UNKNOWN;
        }
        int place = freePlace();
        if (place == NONE) {
            return ROOM;
        }
        settle(place, places[p]);
        referee.make(places[place], list[i]);
        return place;
    }

    public int rows(int p, int k) {
        if (k < 0 || k > 6) {
            return OUTSIDE;
        }
        if (!isPlace(p)) {
            return UNKNOWN;
        }
        if (k == 0) {
            return 1;
        }
        problems.setRows(places[p], k);
        int answer = problems.tree(0);
        return problems.over ? ROOM : answer;
    }

    public int ended(int p) {
        return isPlace(p) ? referee.endOf(places[p]) : UNKNOWN;
    }

    public int result(int p) {
        if (!isPlace(p)) {
            return UNKNOWN;
        }
        return referee.winnerOf(places[p], referee.endOf(places[p]));
    }

    public int say(int p, int i) {
        int n = listMoves(p);
        if (i < 0 || i >= n) {
            return UNKNOWN;
        }
        out.clear();
        speaker.writeMove(list, n, i, out);
        int mark = speaker.markOf(places[p], list[i]);
        if (mark != NONE) {
            out.append(mark);
        }
        return out.length;
    }

    public int hear(int p) {
        int answer = UNKNOWN;
        if (isPlace(p)) {
            answer = speaker.find(list, listMoves(p), tape);
            if (answer != NONE && !speaker.isWhole(tape)) {
                boolean marked = tape.byteAt(tape.length - 1) == speaker.markOf(places[p], list[answer]);
                answer = marked ? answer : NONE;
            }
        }
        tape.clear();
        return answer;
    }

    public int start(int g, int p) {
        if (!isGame(g)) {
            return OUTSIDE;
        }
        if (!isPlace(p)) {
            return UNKNOWN;
        }
        page(g, 0).copyFrom(places[p]);
        lengths[g] = 0;
        return 0;
    }

    public int add(int g, int i) {
        if (!isGame(g)) {
            return OUTSIDE;
        }
        int length = lengths[g];
        if (length == NONE) {
            return UNKNOWN;
        }
        Position last = page(g, length);
        int n = referee.collect(last, list, MOST_MOVES);
        if (i < 0 || i >= n) {
            return UNKNOWN;
        }
        if (length >= LONGEST_GAME) {
            return ROOM;
        }
        Position next = page(g, length + 1);
        next.copyFrom(last);
        referee.make(next, list[i]);
        made[g * GAME_ROOM + length] = i;
        lengths[g] = length + 1;
        return length + 1;
    }

    public int back(int g) {
        if (!isGame(g)) {
            return OUTSIDE;
        }
        if (lengths[g] == NONE) {
            return UNKNOWN;
        }
        if (lengths[g] == 0) {
            return STATE;
        }
        lengths[g]--;
        return lengths[g];
    }

    public int game(int g, int what) {
        if (!isGame(g) || what < 0 || what > 3) {
            return OUTSIDE;
        }
        int length = lengths[g];
        if (length == NONE) {
            return UNKNOWN;
        }
        Position last = page(g, length);
        switch (what) {
            case 0: return length;
            case 1: return countAlike(g, last, NONE);
            case 2: return last.clock >= 100 || countAlike(g, last, NONE) >= 3 ? 1 : 0;
            default: return referee.endOf(last);
        }
    }

    public int played(int g, int k) {
        if (!isGame(g)) {
            return OUTSIDE;
        }
        return k >= 0 && k < lengths[g] ? made[g * GAME_ROOM + k] : UNKNOWN;
    }

    public int now(int g) {
        if (!isGame(g)) {
            return OUTSIDE;
        }
        if (lengths[g] == NONE) {
            return UNKNOWN;
        }
        int place = freePlace();
        if (place == NONE) {
            return ROOM;
        }
        settle(place, page(g, lengths[g]));
        return place;
    }

    public int book(int p, int i) {
        if (!isPlace(p) || (i != NONE && (i < 0 || i >= listMoves(p)))) {
            return UNKNOWN;
        }
        int sum = 0;
        for (int g = 0; g < GAMES; g++) {
            sum += countAlike(g, places[p], i);
        }
        return sum;
    }

    public int sees(int p, int side, int square) {
        if (!isSquare(square) || !isSide(side)) {
            return OUTSIDE;
        }
        if (!isPlace(p)) {
            return UNKNOWN;
        }
        return (referee.seenBy(places[p], side) >>> square & 1) != 0 ? 1 : 0;
    }

    public int view(int p, int side) {
        if (!isSide(side)) {
            return OUTSIDE;
        }
        if (!isPlace(p)) {
            return UNKNOWN;
        }
        out.clear();
        scribe.writeRanks(places[p], referee.seenBy(places[p], side), out);
        return out.length;
    }

    public int before(int p) {
        if (!isPlace(p)) {
            return UNKNOWN;
        }
        if (!law.isPlain()) {
            return STATE;
        }
        return retro.find(places[p]) ? retro.count : ROOM;
    }

    public int beforeAt(int k) {
        if (k < 0 || k >= retro.count) {
            return UNKNOWN;
        }
        int place = freePlace();
        if (place == NONE) {
            return ROOM;
        }
        used[place] = true;
        retro.fillIn(places[place], k);
        return place;
    }

    public int solve() {
        int answer = STATE;
        if (law.isPlain() && !law.hasCatch()) {
            int fault = endings.read(tape);
            answer = fault != NONE ? -200 - fault : endings.run() ? endings.sets : ROOM;
        }
        tape.clear();
        return answer;
    }

    public int worth(int p) {
        if (!isPlace(p)) {
            return UNKNOWN;
        }
        int node = endings.nodeOfAll(places[p]);
        return node == NONE ? STATE : 2 * SURE + endings.worths[node];
    }

    public int tally(int side, int worth) {
        if (!isSide(side) || worth < -SURE || worth > SURE) {
            return OUTSIDE;
        }
        return endings.solved ? endings.countWorth(side, worth) : STATE;
    }

    public int problem(int p, int kind, int goal, int n) {
        if (kind < 0 || kind > 3 || goal < 0 || goal > 2 || n < 1 || n > 4) {
            return OUTSIDE;
        }
        if (!isPlace(p)) {
            return UNKNOWN;
        }
        if (referee.endOf(places[p]) != 0) {
            return STATE;
        }
        problems.set(places[p], kind, goal, n);
        int answer = problems.tree(0);
        if (problems.over) {
            return ROOM;
        }
        problems.keep(p);
        return answer;
    }

    public int key(int k) {
        return problems.keyAt(k);
    }

    public int refutes(int i) {
        return problems.refutesOf(i);
    }

    private void forgetAll() {
        Arrays.fill(lengths, NONE);
        for (int p = 0; p < PLACES; p++) {
            used[p] = false;
            problems.forget(p);
        }
        retro.count = 0;
        endings.solved = false;
    }

    private int countPlaces() {
        int sum = 0;
        for (int p = 0; p < PLACES; p++) {
            sum += used[p] ? 1 : 0;
        }
        return sum;
    }

    private int freePlace() {
        for (int p = 0; p < PLACES; p++) {
            if (!used[p]) {
                return p;
            }
        }
        return NONE;
    }

    private void settle(int place, Position from) {
        used[place] = true;
        places[place].copyFrom(from);
    }

    private boolean isPlace(int p) {
        return p >= 0 && p < PLACES && used[p];
    }

    private boolean isSquare(int square) {
        return square >= 0 && square < law.squares;
    }

    /** The least square of some. */
    private static int lowest(long squares) {
        return SQUARE_OF[(int) ((squares & -squares) * SPREAD >>> 58)];
    }

    private static boolean isSide(int side) {
        return side == 0 || side == 1;
    }

    private static boolean isGame(int g) {
        return g >= 0 && g < GAMES;
    }

    /** Collects the LEGAL moves of a position in the list: how many; 0, if it is not there. */
    private int listMoves(int p) {
        return isPlace(p) ? referee.collect(places[p], list, MOST_MOVES) : 0;
    }

    /** The position of game g behind k moves; made when it is first asked for, and used again later. */
    private Position page(int g, int k) {
        int i = g * GAME_ROOM + k;
        if (line[i] == null) {
            line[i] = new Position();
        }
        return line[i];
    }

    /** How many positions of game g are SAME as p, and, unless next is NONE, had that move made in them. */
    private int countAlike(int g, Position p, int next) {
        int sum = 0;
        for (int k = 0; k <= lengths[g]; k++) {
            boolean counts = next == NONE || (k < lengths[g] && made[g * GAME_ROOM + k] == next);
            if (counts && referee.areAlike(p, page(g, k))) {
                sum++;
            }
        }
        return sum;
    }

    /** A row of bytes, each 0 to 255. */
    private static final class Text {
        final int[] bytes;
        int length;

        Text(int room) {
            bytes = new int[Math.max(room, 0)];
        }

        int byteAt(int i) {
            return i >= 0 && i < length ? bytes[i] : NONE;
        }

        void append(int b) {
            if (length < bytes.length) {
                bytes[length] = b & 255;
                length++;
            }
        }

        void appendNumber(int number) {
            append(number >>> 24);
            append(number >>> 16);
            append(number >>> 8);
            append(number);
        }

        void appendAll(String text) {
            for (int i = 0; i < text.length(); i++) {
                append(text.charAt(i));
            }
        }

        void clear() {
            length = 0;
        }
    }

    /** The RULES, as they were told. */
    private static final class Law {
        int files, ranks, squares, men, royal, plain, castle, checks, stale, bare, switches, firm, risen;
        long hill;
        final int[] letters = new int[MOST_MEN];
        final int[] steps = new int[MOST_MEN * MOST_STEPS];
        final int[] stepCount = new int[MOST_MEN];
        final int[] becomes = new int[MOST_MEN * MOST_BECOME];
        final int[] becomesCount = new int[MOST_MEN];
        final int[] fileOf = new int[BOARD];
        final int[] rankOf = new int[BOARD];

        void clear() {
            files = ranks = squares = men = checks = stale = bare = switches = firm = risen = 0;
            royal = plain = castle = NONE;
            hill = 0;
            Arrays.fill(stepCount, 0);
            Arrays.fill(becomesCount, 0);
        }

        void setBoard(int newFiles, int newRanks) {
            files = newFiles;
            ranks = newRanks;
            squares = 0;
            for (int r = 0; r < ranks; r++) {
                for (int f = 0; f < files && squares < BOARD; f++) {
                    fileOf[squares] = f;
                    rankOf[squares] = r;
                    squares++;
                }
            }
        }

        boolean has(int which) {
            return (switches & which) != 0;
        }

        /** Without hand, blast, checks: what BEFORE and ENDINGS ask for. */
        boolean isPlain() {
            return !has(HAND | BLAST) && checks == 0;
        }

        boolean hasCatch() {
            for (int m = 0; m < men; m++) {
                for (int i = 0; i < stepCount[m]; i++) {
                    if ((steps[m * MOST_STEPS + i] & CATCH) != 0) {
                        return true;
                    }
                }
            }
            return false;
        }

        /** The man of a small letter. */
        int manOf(int letter) {
            for (int m = 0; m < men; m++) {
                if (letters[m] == letter) {
                    return m;
                }
            }
            return NONE;
        }

        /** Of a letter, capital or small, 2 times the man's number, and the side. */
        int codeOf(int letter) {
            boolean capital = letter >= 'A' && letter <= 'Z';
            int man = manOf(capital ? letter + 32 : letter);
            return man == NONE ? NONE : 2 * man + (capital ? 0 : 1);
        }

        int letterOf(int code) {
            int man = code >> 1;
            if (man < 0 || man >= men) {
                return '?';
            }
            return (code & 1) == 0 ? letters[man] - 32 : letters[man];
        }

        boolean becomesOthers(int man) {
            return man >= 0 && man < MOST_MEN && becomesCount[man] > 0;
        }

        boolean becomesThis(int man, int other) {
            for (int i = 0; i < becomesCount[man]; i++) {
                if (becomes[man * MOST_BECOME + i] == other) {
                    return true;
                }
            }
            return false;
        }

        boolean isLast(int square, int side) {
            return rankOf[square] == (side == 0 ? ranks - 1 : 0);
        }

        boolean isFirst(int square, int side) {
            return isLast(square, 1 - side);
        }
    }

    /** Reads a text of RULES, TOKEN by TOKEN; where it stops, the TOKEN at hand is the FAULT. */
    private static final class LawReader {
        private static final int END = 0, WORD = 1, NUMBER = 2, SEMICOLON = 3, COMMA = 4, NO_TOKEN = 5;
        private static final int ROYAL_TOLD = 1, CASTLE_TOLD = 2, HAND_TOLD = 4, MUST_TOLD = 8, SHY_TOLD = 16;
        private static final int BLAST_TOLD = 32, CHECKS_TOLD = 64, HILL_TOLD = 128, STALE_TOLD = 256, BARE_TOLD = 512;

        private Text text;
        private Law law;
        private int start, next, kind, value, told;

        boolean read(Text from, Law into) {
            text = from;
            law = into;
            law.clear();
            next = 0;
            told = 0;
            advance();
            boolean fits = takeBoard();
            for (int i = 0; i < TAPE_ROOM && fits && kind != END; i++) {
                fits = isWord("man") ? takeMan() : isWord("becomes") ? takeBecomes() : takeOther();
                fits = fits && takeEnd();
            }
            return fits && kind == END;
        }

        int faultPlace() {
            return start;
        }

        private void advance() {
            start = next;
            while (start < text.length && (text.byteAt(start) == ' ' || text.byteAt(start) == '\n')) {
                start++;
            }
            int b = text.byteAt(start);
            next = start + 1;
            if (b == NONE) {
                kind = END;
                next = start;
            } else if (isLetter(b)) {
                kind = WORD;
                while (next < text.length && isLetter(text.byteAt(next))) {
                    next++;
                }
            } else if (isDigit(b) || b == '-') {
                scanNumber(b == '-' ? start + 1 : start);
            } else {
                kind = b == ';' ? SEMICOLON : b == ',' ? COMMA : NO_TOKEN;
            }
        }

        private void scanNumber(int digits) {
            value = 0;
            next = digits;
            while (next < text.length && isDigit(text.byteAt(next))) {
                value = next - digits < 2 ? 10 * value + text.byteAt(next) - '0' : value;
                next++;
            }
            kind = next == digits || next - digits > 2 ? NO_TOKEN : NUMBER;
            if (digits > start) {
                value = -value;
            }
        }

        private static boolean isLetter(int b) {
            return b >= 'a' && b <= 'z';
        }

        private static boolean isDigit(int b) {
            return b >= '0' && b <= '9';
        }

        private boolean isWord(String word) {
            if (kind != WORD || next - start != word.length()) {
                return false;
            }
            for (int i = 0; i < word.length(); i++) {
                if (text.byteAt(start + i) != word.charAt(i)) {
                    return false;
                }
            }
            return true;
        }

        private boolean isNumber(int low, int high) {
            return kind == NUMBER && value >= low && value <= high;
        }

        /** The byte of a WORD of one letter. */
        private int oneLetter() {
            return kind == WORD && next - start == 1 ? text.byteAt(start) : NONE;
        }

        private int toldMan() {
            int letter = oneLetter();
            return letter == NONE ? NONE : law.manOf(letter);
        }

        private boolean takeEnd() {
            if (kind != SEMICOLON) {
                return false;
            }
            advance();
            return true;
        }

        private boolean takeBoard() {
            if (!isWord("board")) {
                return false;
            }
            advance();
            if (!isNumber(3, 8)) {
                return false;
            }
            int files = value;
            advance();
            if (!isNumber(3, 8)) {
                return false;
            }
            law.setBoard(files, value);
            advance();
            return takeEnd();
        }

        private boolean takeOther() {
            int which = onceWord();
            boolean early = which == CASTLE_TOLD && law.royal == NONE;
            if (which == 0 || early || (told & which) != 0) {
                return false;
            }
            told |= which;
            advance();
            return takeOnce(which);
        }

        /** Which of the sentences that are told once at most the WORD begins. */
        private int onceWord() {
            if (isWord("royal")) {
                return ROYAL_TOLD;
            }
            if (isWord("castle")) {
                return CASTLE_TOLD;
            }
            if (isWord("hand")) {
                return HAND_TOLD;
            }
            if (isWord("must")) {
                return MUST_TOLD;
            }
            if (isWord("shy")) {
                return SHY_TOLD;
            }
            if (isWord("blast")) {
                return BLAST_TOLD;
            }
            if (isWord("checks")) {
                return CHECKS_TOLD;
            }
            if (isWord("hill")) {
                return HILL_TOLD;
            }
            if (isWord("stale")) {
                return STALE_TOLD;
            }
            return isWord("bare") ? BARE_TOLD : 0;
        }

        private boolean takeOnce(int which) {
            switch (which) {
                case ROYAL_TOLD:
                    return takeRoyal();
                case CASTLE_TOLD:
                    return takeCastle();
                case HAND_TOLD:
                    law.switches |= HAND;
                    return true;
                case MUST_TOLD:
                    law.switches |= MUST;
                    return true;
                case SHY_TOLD:
                    law.switches |= SHY;
                    return true;
                case BLAST_TOLD:
                    return takeBlast();
                case CHECKS_TOLD:
                    return takeChecks();
                case HILL_TOLD:
                    return takeHill();
                case STALE_TOLD:
                    law.stale = wonOrLost();
                    return law.stale != 0;
                default:
                    law.bare = wonOrLost();
                    return law.bare != 0;
            }
        }

        private boolean takeMan() {
            advance();
            int letter = oneLetter();
            if (letter == NONE || law.manOf(letter) != NONE || law.men >= MOST_MEN) {
                return false;
            }
            advance();
            int man = law.men;
            law.letters[man] = letter;
            law.men++;
            for (int i = 0; i < MOST_STEPS; i++) {
                if (!takeStep(man, i)) {
                    return false;
                }
                if (kind != COMMA || i == MOST_STEPS - 1) {
                    return true;
                }
                advance();
            }
            return true;
        }

        private boolean takeStep(int man, int i) {
            int step = 0;
            for (int n = 0; n < MOST_WORDS && kind == WORD; n++) {
                int flag = stepFlag();
                if (flag == 0 || !fits(step, flag)) {
                    return false;
                }
                step |= flag;
                advance();
            }
            if (!isNumber(-7, 7)) {
                return false;
            }
            int a = value;
            advance();
            if (!isNumber(-7, 7) || (a == 0 && value == 0)) {
                return false;
            }
            step |= (a + 8) << 6 | (value + 8) << 10;
            advance();
            int ride = takeTail("ride", 2, 7, 1);
            int from = ride == NONE ? NONE : takeTail("from", 1, law.ranks, 0);
            if (ride == NONE || from == NONE) {
                return false;
            }
            law.steps[man * MOST_STEPS + i] = step | ride << 14 | from << 17;
            law.stepCount[man] = i + 1;
            return true;
        }

        /** The number behind a word that may be there, or what it is without; NONE if it is wrong. */
        private int takeTail(String word, int low, int high, int without) {
            if (!isWord(word)) {
                return without;
            }
            advance();
            if (!isNumber(low, high)) {
                return NONE;
            }
            int number = value;
            advance();
            return number;
        }

        private int stepFlag() {
            if (isWord("to")) {
                return TO;
            }
            if (isWord("on")) {
                return ON;
            }
            if (isWord("fore")) {
                return FORE;
            }
            if (isWord("over")) {
                return OVER;
            }
            if (isWord("pass")) {
                return PASS;
            }
            return isWord("catch") ? CATCH : 0;
        }

        private static boolean fits(int flags, int flag) {
            int against = flag;
            if (flag == TO || flag == ON) {
                against = TO | ON;
            } else if (flag == OVER || flag == PASS) {
                against = OVER | PASS;
            }
            return (flags & against) == 0;
        }

        private boolean takeRoyal() {
            int man = toldMan();
            if (man == NONE || law.becomesOthers(man) || (law.risen >> man & 1) != 0) {
                return false;
            }
            law.royal = man;
            advance();
            return true;
        }

        private boolean takeCastle() {
            int man = toldMan();
            if (man == NONE || man == law.royal) {
                return false;
            }
            law.castle = man;
            advance();
            return true;
        }

        private boolean takeBecomes() {
            advance();
            int man = toldMan();
            if (man == NONE || man == law.royal || law.becomesOthers(man) || (law.risen >> man & 1) != 0) {
                return false;
            }
            advance();
            int mine = 0;
            for (int i = 0; i < MOST_BECOME && (i == 0 || kind == WORD); i++) {
                int other = toldMan();
                if (other == NONE || other == man || other == law.royal) {
                    return false;
                }
                if (law.becomesOthers(other) || (mine >> other & 1) != 0) {
                    return false;
                }
                mine |= 1 << other;
                law.becomes[man * MOST_BECOME + i] = other;
                law.becomesCount[man] = i + 1;
                advance();
            }
            law.risen |= mine;
            law.plain = law.plain == NONE ? man : law.plain;
            return true;
        }

        private boolean takeBlast() {
            law.switches |= BLAST;
            for (int i = 0; i < MOST_MEN && kind == WORD; i++) {
                int man = toldMan();
                if (man == NONE || (law.firm >> man & 1) != 0) {
                    return false;
                }
                law.firm |= 1 << man;
                advance();
            }
            return true;
        }

        private boolean takeChecks() {
            if (!isNumber(1, 9)) {
                return false;
            }
            law.checks = value;
            advance();
            return true;
        }

        private boolean takeHill() {
            for (int i = 0; i <= BOARD && (i == 0 || kind == WORD); i++) {
                int letter = oneLetter();
                if (letter == NONE || letter - 'a' >= law.files) {
                    return false;
                }
                advance();
                if (!isNumber(1, law.ranks)) {
                    return false;
                }
                long bit = 1L << (value - 1) * law.files + letter - 'a';
                if ((law.hill & bit) != 0) {
                    return false;
                }
                law.hill |= bit;
                advance();
            }
            return true;
        }

        private int wonOrLost() {
            int which = isWord("won") ? WON : isWord("lost") ? LOST : 0;
            if (which != 0) {
                advance();
            }
            return which;
        }
    }

    /** All ways that STEPS lead over the board, laid out once for all: by code, by square, by square come to. */
    private static final class Ways {
        // A STEP that rides along ranks and files comes to 14 squares of 8 x 8, from each: none comes to more.
        private static final int MOST_WAYS = CODES * MOST_STEPS * BOARD * 14;

        /** Where the ways of a code from s to t begin; those behind them begin where these end. */
        final int[] first = new int[CODES * BOARD * BOARD + 1];
        /** Of a way: the square come to, 6 bits; the STEP's words, 6 bits; how often its vector is gone along. */
        final int[] way = new int[MOST_WAYS];
        final long[] between = new long[MOST_WAYS];
        /** By code and square: from where a way leads there; from where one without to does. */
        final long[] from = new long[CODES * BOARD];
        final long[] hitFrom = new long[CODES * BOARD];
        final long[] around = new long[BOARD];
        private final int[] times = new int[BOARD * MOST_STEPS];
        private Law law;
        private int count;

        void lay(Law of) {
            law = of;
            count = 0;
            Arrays.fill(from, 0);
            Arrays.fill(hitFrom, 0);
            for (int code = 0; code < 2 * law.men; code++) {
                for (int s = 0; s < BOARD; s++) {
                    layFrom(code, s);
                }
            }
            first[2 * law.men * BOARD * BOARD] = count;
            layAround();
        }

        boolean isOpen(int w, long occupied) {
            long met = between[w] & occupied;
            if ((way[w] >> 6 & OVER) == 0) {
                return met == 0;
            }
            return met != 0 && (met & met - 1) == 0;
        }

        static int cell(int code, int s, int t) {
            return (code * BOARD + s) * BOARD + t;
        }

        /** Squares, empty ones alone, from which a man may have come to t, taking there or not. */
        long origins(int code, int t, boolean taking, long occupied) {
            long all = 0;
            int wrong = taking ? TO : ON;
            long left = from[code * BOARD + t] & ~occupied;
            int start = cell(code, 0, t);
            for (int n = 0; n < BOARD && left != 0; n++) {
                long bit = left & -left;
                left ^= bit;
                int cell = start + SQUARE_OF[(int) (bit * SPREAD >>> 58)] * BOARD;
                int end = first[cell + 1];
                for (int w = first[cell]; w < end; w++) {
                    if ((way[w] >> 6 & wrong) == 0 && isOpen(w, occupied)) {
                        all |= bit;
                    }
                }
            }
            return all;
        }

        private void layFrom(int code, int s) {
            long reached = s < law.squares ? reach(code, s) : 0;
            int man = code >> 1;
            for (int t = 0; t < BOARD; t++) {
                first[cell(code, s, t)] = count;
                if ((reached >>> t & 1) == 0) {
                    continue;
                }
                for (int i = 0; i < law.stepCount[man]; i++) {
                    int k = times[t * MOST_STEPS + i];
                    if (k > 0) {
                        addWay(code, s, t, law.steps[man * MOST_STEPS + i] & 63, k);
                        times[t * MOST_STEPS + i] = 0;
                    }
                }
            }
        }

        /** Notes how often each STEP's vector is gone along from s to each square; tells these squares. */
        private long reach(int code, int s) {
            int man = code >> 1;
            long reached = 0;
            for (int i = 0; i < law.stepCount[man]; i++) {
                int step = law.steps[man * MOST_STEPS + i];
                int home = step >> 17 & 15;
                int rank = (code & 1) == 0 ? law.rankOf[s] + 1 : law.ranks - law.rankOf[s];
                if (home != 0 && home != rank) {
                    continue;
                }
                int vectors = (step & FORE) != 0 ? 1 : 8;
                for (int v = 0; v < vectors; v++) {
                    reached |= ride(s, i, step, v, code & 1);
                }
            }
            return reached;
        }

        private long ride(int s, int i, int step, int v, int side) {
            int a = (step >> 6 & 15) - 8;
            int b = (step >> 10 & 15) - 8;
            boolean fore = (step & FORE) != 0;
            int across = fore ? a : (v & 4) == 0 ? a : b;
            int along = fore ? b : (v & 4) == 0 ? b : a;
            if ((v & 1) != 0) {
                across = -across;
            }
            if ((v & 2) != 0 || (fore && side == 1)) {
                along = -along;
            }
            long reached = 0;
            int f = law.fileOf[s] + across;
            int r = law.rankOf[s] + along;
            for (int k = 1; k <= (step >> 14 & 7) && isOn(f, r); k++) {
                int t = r * law.files + f;
                times[t * MOST_STEPS + i] = k;
                reached |= 1L << t;
                f += across;
                r += along;
            }
            return reached;
        }

        private boolean isOn(int f, int r) {
            return f >= 0 && f < law.files && r >= 0 && r < law.ranks;
        }

        private void addWay(int code, int s, int t, int flags, int k) {
            if (count >= MOST_WAYS) {
                return;
            }
            long gone = 0;
            int stride = k > 0 ? (t - s) / k : 0;
            for (int i = 1; i < k; i++) {
                gone |= 1L << s + i * stride;
            }
            way[count] = t | flags << 6 | k << 12;
            between[count] = gone;
            count++;
            from[code * BOARD + t] |= 1L << s;
            if ((flags & TO) == 0) {
                hitFrom[code * BOARD + t] |= 1L << s;
            }
        }

        private void layAround() {
            for (int s = 0; s < law.squares; s++) {
                long near = 0;
                for (int i = 0; i < 9; i++) {
                    int f = law.fileOf[s] + i % 3 - 1;
                    int r = law.rankOf[s] + i / 3 - 1;
                    if (i != 4 && isOn(f, r)) {
                        near |= 1L << r * law.files + f;
                    }
                }
                around[s] = near;
            }
        }
    }

    /** A position; on a square stands 2 times the man's number, and its side, or NONE. */
    private static final class Position {
        private static final int HAND_BITS = 5;
        /** A PASS of more squares than any STEP goes over. */
        static final long TOO_LONG_A_PASS = 8;

        final byte[] on = new byte[BOARD];
        final long[] of = new long[2];
        final int[] royalAt = new int[2];
        final long[] hand = new long[2];
        final int[] checks = new int[2];
        int side, clock;
        /** Squares that put() changed. */
        long touched;
        long rights;
        /** How many squares, 3 bits, then these, 6 bits each; over are all but the man's. */
        long pass, over;

        Position() {
            Arrays.fill(on, (byte) NONE);
            Arrays.fill(royalAt, NONE);
        }

        void clear() {
            Arrays.fill(on, (byte) NONE);
            Arrays.fill(of, 0);
            Arrays.fill(royalAt, NONE);
            side = 0;
            strip();
        }

        /** Makes it BARE. */
        void strip() {
            rights = pass = over = 0;
            Arrays.fill(hand, 0);
            Arrays.fill(checks, 0);
            clock = 0;
        }

        void copyFrom(Position p) {
            System.arraycopy(p.on, 0, on, 0, BOARD);
            for (int i = 0; i < 2; i++) {
                of[i] = p.of[i];
                royalAt[i] = p.royalAt[i];
                hand[i] = p.hand[i];
                checks[i] = p.checks[i];
            }
            side = p.side;
            clock = p.clock;
            rights = p.rights;
            pass = p.pass;
            over = p.over;
        }

        void put(int square, int code, int royal) {
            if (square < 0 || square >= BOARD) {
                return;
            }
            long bit = 1L << square;
            int old = on[square];
            if (old >= 0) {
                of[old & 1] &= ~bit;
                if (royalAt[old & 1] == square) {
                    royalAt[old & 1] = NONE;
                }
            }
            on[square] = (byte) code;
            if (code >= 0) {
                of[code & 1] |= bit;
                if (code >> 1 == royal) {
                    royalAt[code & 1] = square;
                }
            }
            touched |= bit;
        }

        long occupied() {
            return of[0] | of[1];
        }

        int inHand(int who, int man) {
            return (int) (hand[who] >>> HAND_BITS * man) & 31;
        }

        void addToHand(int who, int man, int n) {
            hand[who] += (long) n << HAND_BITS * man;
        }

        int handSize(int who) {
            int sum = 0;
            for (int m = 0; m < MOST_MEN; m++) {
                sum += inHand(who, m);
            }
            return sum;
        }

        int passSize() {
            return (int) pass & 7;
        }

        int passSquare(int i) {
            return (int) (pass >>> 3 + 6 * i) & 63;
        }

        void clearPass() {
            pass = 0;
            over = 0;
        }

        /** One more square of PASS, the man's first. */
        void addPass(int square) {
            int n = passSize();
            if (pass == TOO_LONG_A_PASS || n >= 7) {
                pass = TOO_LONG_A_PASS;
                return;
            }
            pass = (pass | (long) square << 3 + 6 * n) + 1;
            over |= n > 0 ? 1L << square : 0;
        }
    }

    /** Knows what the RULES allow: moves, what they do, and how positions end. */
    private static final class Referee {
        private final Law law;
        private final Ways ways;
        final int[] room = new int[MOST_MOVES];
        private final Position shifted = new Position();
        /** The position whose moves are collected, and what is found so far. */
        private Position here;
        private int[] list;
        private int count;
        private boolean takes;
        /** No move that leaves these squares as they are, and the ROYAL man, lays this open. */
        private long watched;
        private boolean calm;

        Referee(Law law, Ways ways) {
            this.law = law;
            this.ways = ways;
        }

        // A move: the square come to, the one left, 6 bits each; the man, what it becomes, what it takes,
        // 4 bits each; its kind, 2 bits; where it makes PASS, how often the vector was gone along.

        static int comeTo(int move) {
            return move & 63;
        }

        static int leftBy(int move) {
            return move >> 6 & 63;
        }

        static int manOf(int move) {
            return move >> 12 & 15;
        }

        static int becomes(int move) {
            int man = move >> 16 & 15;
            return man == NO_MAN ? NONE : man;
        }

        static int takenBy(int move) {
            int man = move >> 20 & 15;
            return man == NO_MAN ? NONE : man;
        }

        static int kindOf(int move) {
            return move >> 24 & 3;
        }

        static int passedBy(int move) {
            return move >> 26 & 7;
        }

        static int plainMove(int s, int t, int man, int kind) {
            return t | s << 6 | man << 12 | NO_MAN << 16 | NO_MAN << 20 | kind << 24;
        }

        static int becoming(int move, int man) {
            return move & ~(15 << 16) | man << 16;
        }

        /** Whether a square is ATTACKED. All is written out here: no other code runs as often. */
        boolean isHit(Position p, int square, int side) {
            long occupied = p.of[0] | p.of[1];
            long left = p.of[side];
            for (int n = 0; n < BOARD && left != 0; n++) {
                long bit = left & -left;
                left ^= bit;
                int s = SQUARE_OF[(int) (bit * SPREAD >>> 58)];
                int code = p.on[s];
                if ((ways.hitFrom[code * BOARD + square] & bit) == 0) {
                    continue;
                }
                int cell = (code * BOARD + s) * BOARD + square;
                for (int w = ways.first[cell]; w < ways.first[cell + 1]; w++) {
                    int flags = ways.way[w] >> 6;
                    long met = ways.between[w] & occupied;
                    boolean open = (flags & OVER) == 0 ? met == 0 : met != 0 && (met & met - 1) == 0;
                    if (open && (flags & TO) == 0) {
                        return true;
                    }
                }
            }
            return false;
        }

        boolean isRoyalHit(Position p, int side) {
            return p.royalAt[side] != NONE && isHit(p, p.royalAt[side], 1 - side);
        }

        /** LEGAL moves into a list, in their ORDER: how many; it stops behind a man's when there are enough. */
        int collect(Position of, int[] into, int enough) {
            begin(of, into);
            if (earlyEnd(here) != 0) {
                return 0;
            }
            long left = here.of[here.side];
            for (int n = 0; n < BOARD && left != 0 && count < enough; n++) {
                int s = lowest(left);
                left &= left - 1;
                int before = count;
                addSteps(s);
                if (s == here.royalAt[here.side] && here.rights != 0) {
                    addCastling(s, -1, before);
                    addCastling(s, 1, before);
                }
                keepLawful(before);
            }
            int drops = law.has(HAND) ? law.squares : 0;
            for (int t = 0; t < drops && count < enough; t++) {
                int before = count;
                addDrops(t);
                keepLawful(before);
            }
            if (law.has(MUST) && takes) {
                keepTakes();
            }
            return count;
        }

        private void begin(Position of, int[] into) {
            here = of;
            list = into;
            count = 0;
            takes = false;
            watched = 0;
            calm = law.royal == NONE || !law.has(BLAST | SHY);
            if (calm && here.royalAt[here.side] != NONE) {
                survey(here.royalAt[here.side]);
            }
        }

        /** Looks at all ways by which the other side's men may come to the ROYAL man, open or not. */
        private void survey(int royal) {
            long occupied = here.occupied();
            long left = here.of[1 - here.side];
            for (int n = 0; n < BOARD && left != 0; n++) {
                long bit = left & -left;
                left ^= bit;
                int s = SQUARE_OF[(int) (bit * SPREAD >>> 58)];
                int code = here.on[s];
                if ((ways.hitFrom[code * BOARD + royal] & bit) == 0) {
                    continue;
                }
                int cell = Ways.cell(code, s, royal);
                for (int w = ways.first[cell]; w < ways.first[cell + 1]; w++) {
                    if ((ways.way[w] >> 6 & TO) == 0) {
                        watched |= ways.between[w];
                        calm = calm && !ways.isOpen(w, occupied);
                    }
                }
            }
        }

        /** Whether a way leads a man of a side to its end, as the position is. */
        private boolean leads(Position p, int w, int side) {
            int flags = ways.way[w] >> 6 & 63;
            long bit = 1L << (ways.way[w] & 63);
            if ((p.of[side] & bit) != 0 || !ways.isOpen(w, p.occupied())) {
                return false;
            }
            if ((flags & CATCH) != 0 && side == p.side && (p.over & bit) != 0) {
                return true;
            }
            boolean met = (p.of[1 - side] & bit) != 0;
            return (flags & (met ? TO : ON)) == 0;
        }

        /** Moves by STEPS of the man on s. */
        private void addSteps(int s) {
            int code = here.on[s];
            int came = NONE;
            int end = ways.first[Ways.cell(code, s, BOARD)];
            for (int w = ways.first[Ways.cell(code, s, 0)]; w < end; w++) {
                int t = ways.way[w] & 63;
                if (t == came || !leads(here, w, here.side)) {
                    continue;
                }
                came = t;
                int move = moveAlong(w, s, code);
                int choices = choices(move);
                for (int i = 0; i < choices; i++) {
                    addMove(becoming(move, law.becomes[(code >> 1) * MOST_BECOME + i]));
                }
                if (choices == 0) {
                    addMove(move);
                }
            }
        }

        private void addMove(int move) {
            if (count < list.length) {
                list[count] = move;
                count++;
            }
        }

        private int moveAlong(int w, int s, int code) {
            int t = ways.way[w] & 63;
            int flags = ways.way[w] >> 6 & 63;
            int k = ways.way[w] >> 12;
            boolean caught = (flags & CATCH) != 0 && (here.over >>> t & 1) != 0;
            int victim = caught ? here.on[here.passSquare(0)] : here.on[t];
            int move = plainMove(s, t, code >> 1, caught ? CATCH_MOVE : STEP_MOVE);
            if (victim >= 0) {
                move = move & ~(15 << 20) | victim >> 1 << 20;
            }
            return (flags & PASS) != 0 && k > 1 ? move | k << 26 : move;
        }

        /** How many men the one that moves may become: 0, if it stays what it is. */
        private int choices(int move) {
            boolean gone = law.has(BLAST) && takenBy(move) != NONE;
            return !gone && law.isLast(comeTo(move), here.side) ? law.becomesCount[manOf(move)] : 0;
        }

        /** CASTLING with the nearest man on one hand, among the ROYAL man's other moves. */
        private void addCastling(int s, int d, int before) {
            int other = 1 - here.side;
            int m = nearest(here, s, d);
            if (m == NONE || Math.abs(m - s) < 3 || (here.rights & here.of[here.side] & 1L << m) == 0) {
                return;
            }
            if (isHit(here, s, other) || isHit(here, s + d, other) || isHit(here, s + 2 * d, other)) {
                return;
            }
            addMove(plainMove(s, s + 2 * d, law.royal, CASTLING));
            for (int i = count - 1; i > before && comeTo(list[i - 1]) > comeTo(list[i]); i--) {
                int later = list[i - 1];
                list[i - 1] = list[i];
                list[i] = later;
            }
        }

        private void addDrops(int t) {
            if (here.on[t] != NONE) {
                return;
            }
            boolean edge = law.isLast(t, 0) || law.isLast(t, 1);
            for (int m = 0; m < law.men; m++) {
                if (here.inHand(here.side, m) > 0 && !(edge && law.becomesOthers(m))) {
                    addMove(plainMove(0, t, m, DROP));
                }
            }
        }

        /** Of the moves from a place of the list on, keeps those that are LEGAL (must aside). */
        private void keepLawful(int before) {
            int kept = before;
            for (int i = before; i < count; i++) {
                int move = list[i];
                boolean lawful = isSafe(move);
                if (!lawful) {
                    shifted.copyFrom(here);
                    shift(shifted, move);
                    blast(shifted, move);
                    lawful = mayStand();
                }
                if (lawful) {
                    list[kept] = move;
                    kept++;
                    takes = takes || takenBy(move) != NONE;
                }
            }
            count = kept;
        }

        /** Whether it is plain that a move does not lay the own ROYAL man open. */
        private boolean isSafe(int move) {
            int kind = kindOf(move);
            if (!calm || kind == CASTLING || manOf(move) == law.royal) {
                return false;
            }
            long changed = 1L << comeTo(move);
            if (kind != DROP) {
                changed |= 1L << leftBy(move);
            }
            if (kind == CATCH_MOVE) {
                changed |= 1L << here.passSquare(0);
            }
            return (changed & watched) == 0;
        }

        /** Whether the shifted men may stand so behind a move. */
        private boolean mayStand() {
            int own = here.side;
            int other = 1 - own;
            int mine = shifted.royalAt[own];
            int its = shifted.royalAt[other];
            if (here.royalAt[own] != NONE) {
                boolean gone = here.royalAt[other] != NONE && its == NONE;
                if (mine == NONE || !gone && isHit(shifted, mine, other)) {
                    return false;
                }
            }
            return !law.has(SHY) || its == NONE || !isHit(shifted, its, own);
        }

        /** The first man from s on, along the rank. */
        private int nearest(Position p, int s, int d) {
            int m = s;
            for (int f = law.fileOf[s] + d; f >= 0 && f < law.files; f += d) {
                m += d;
                if (p.on[m] != NONE) {
                    return m;
                }
            }
            return NONE;
        }

        private void keepTakes() {
            int kept = 0;
            for (int i = 0; i < count; i++) {
                if (takenBy(list[i]) != NONE) {
                    list[kept] = list[i];
                    kept++;
                }
            }
            count = kept;
        }

        /** Does what a move does to the men on squares, blast aside. */
        private void shift(Position p, int move) {
            int s = leftBy(move);
            int t = comeTo(move);
            int kind = kindOf(move);
            int code = 2 * manOf(move) + p.side;
            if (kind == DROP) {
                p.put(t, code, law.royal);
                return;
            }
            if (kind == CASTLING) {
                int m = nearest(p, s, t > s ? 1 : -1);
                p.put(m, NONE, law.royal);
                p.put(s + t >> 1, 2 * law.castle + p.side, law.royal);
            }
            if (kind == CATCH_MOVE) {
                p.put(p.passSquare(0), NONE, law.royal);
            }
            p.put(s, NONE, law.royal);
            p.put(t, becomes(move) == NONE ? code : 2 * becomes(move) + p.side, law.royal);
        }

        /** Does what blast does when one was taken. */
        private void blast(Position p, int move) {
            if (!law.has(BLAST) || takenBy(move) == NONE) {
                return;
            }
            int t = comeTo(move);
            p.put(t, NONE, law.royal);
            long left = ways.around[t] & p.occupied();
            for (int n = 0; n < BOARD && left != 0; n++) {
                int s = lowest(left);
                left &= left - 1;
                if ((law.firm >> (p.on[s] >> 1) & 1) == 0) {
                    p.put(s, NONE, law.royal);
                }
            }
        }

        /** Makes a LEGAL move. */
        void make(Position p, int move) {
            int own = p.side;
            int man = manOf(move);
            int kind = kindOf(move);
            int taken = takenBy(move);
            if (man == law.royal) {
                p.rights &= ~p.of[own];
            }
            p.touched = 0;
            shift(p, move);
            blast(p, move);
            p.rights &= ~p.touched;
            if (kind == DROP) {
                p.addToHand(own, man, -1);
            }
            if (law.has(HAND) && taken != NONE && taken != law.royal && p.inHand(own, taken) < MOST_IN_HAND) {
                p.addToHand(own, taken, 1);
            }
            notePass(p, move);
            boolean afresh = taken != NONE || kind == DROP || (kind != CASTLING && law.becomesOthers(man));
            p.clock = afresh ? 0 : Math.min(p.clock + 1, MOST_CLOCK);
            p.side = 1 - own;
            if (law.checks > 0 && isRoyalHit(p, p.side)) {
                p.checks[own] = Math.min(p.checks[own] + 1, 9);
            }
        }

        private void notePass(Position p, int move) {
            p.clearPass();
            int k = passedBy(move);
            int t = comeTo(move);
            if (k < 2 || p.on[t] == NONE) {
                return;
            }
            int s = leftBy(move);
            int stride = (t - s) / k;
            p.addPass(t);
            for (int i = 1; i < k; i++) {
                p.addPass(s + i * stride);
            }
        }

        /** By which of 1 to 4 it has ENDED; 0: by none. */
        int earlyEnd(Position p) {
            if (law.has(BLAST) && law.royal != NONE && (p.royalAt[0] == NONE || p.royalAt[1] == NONE)) {
                return 1;
            }
            if (isOnHill(p, 0) || isOnHill(p, 1)) {
                return 2;
            }
            if (law.checks > 0 && (p.checks[0] >= law.checks || p.checks[1] >= law.checks)) {
                return 3;
            }
            return isBare(p, 0) || isBare(p, 1) ? 4 : 0;
        }

        private boolean isOnHill(Position p, int side) {
            return p.royalAt[side] != NONE && (law.hill >>> p.royalAt[side] & 1) != 0;
        }

        private boolean isBare(Position p, int side) {
            return p.of[side] == 0 && p.hand[side] == 0;
        }

        int endOf(Position p) {
            int early = earlyEnd(p);
            if (early != 0) {
                return early;
            }
            if (collect(p, room, 1) > 0) {
                return 0;
            }
            return isRoyalHit(p, p.side) ? 5 : 6;
        }

        /** Who won in a position that has ENDED so; DRAWN, or NONE. */
        int winnerOf(Position p, int end) {
            int side = p.side;
            int other = 1 - side;
            switch (end) {
                case 1:
                    return p.royalAt[side] == NONE ? other : side;
                case 2:
                    return isOnHill(p, other) ? other : side;
                case 3:
                    return p.checks[other] >= law.checks ? other : side;
                case 4:
                    int bare = isBare(p, side) ? side : other;
                    return law.bare == WON ? bare : 1 - bare;
                case 5:
                    return other;
                case 6:
                    return law.stale == WON ? side : law.stale == LOST ? other : DRAWN;
                default:
                    return NONE;
            }
        }

        /** The first rule, 2 to 8, by which a position is not RIGHT; 0: it is. */
        int faultOf(Position p) {
            if (!hasRightMen(p)) {
                return 2;
            }
            if (hasLateMan(p)) {
                return 3;
            }
            if (!hasRightRights(p)) {
                return 4;
            }
            if (p.pass != 0 && !hasRightPass(p)) {
                return 5;
            }
            if (isRoyalHit(p, 1 - p.side)) {
                return 6;
            }
            if (law.checks == 0 && (p.checks[0] != 0 || p.checks[1] != 0)) {
                return 7;
            }
            return !law.has(HAND) && (p.hand[0] != 0 || p.hand[1] != 0) ? 8 : 0;
        }

        private boolean hasRightMen(Position p) {
            if (law.royal == NONE) {
                return true;
            }
            for (int side = 0; side < 2; side++) {
                int sum = 0;
                long left = p.of[side];
                for (int n = 0; n < BOARD && left != 0; n++) {
                    int s = lowest(left);
                    left &= left - 1;
                    sum += p.on[s] >> 1 == law.royal ? 1 : 0;
                }
                if (sum > 1 || (sum == 0 && law.has(BLAST)) || p.inHand(side, law.royal) > 0) {
                    return false;
                }
            }
            return true;
        }

        /** Whether a man that becomes others is on its last rank. */
        private boolean hasLateMan(Position p) {
            long left = p.of[0] | p.of[1];
            for (int n = 0; n < BOARD && left != 0; n++) {
                int s = lowest(left);
                left &= left - 1;
                int code = p.on[s];
                if (law.becomesOthers(code >> 1) && law.isLast(s, code & 1)) {
                    return true;
                }
            }
            return false;
        }

        private boolean hasRightRights(Position p) {
            for (int s = 0; s < law.squares && p.rights != 0; s++) {
                if ((p.rights >>> s & 1) == 0) {
                    continue;
                }
                int code = p.on[s];
                if (law.castle == NONE || code == NONE || code >> 1 != law.castle || !law.isFirst(s, code & 1)) {
                    return false;
                }
                int royal = p.royalAt[code & 1];
                if (royal == NONE || !law.isFirst(royal, code & 1)) {
                    return false;
                }
            }
            return true;
        }

        private boolean hasRightPass(Position p) {
            int k = p.passSize();
            int t = p.passSquare(0);
            int code = p.on[t];
            if (k < 2 || code == NONE || (code & 1) == p.side || (p.over & p.occupied()) != 0) {
                return false;
            }
            for (int s = 0; s < law.squares; s++) {
                if (p.on[s] != NONE) {
                    continue;
                }
                int cell = Ways.cell(code, s, t);
                for (int w = ways.first[cell]; w < ways.first[cell + 1]; w++) {
                    if ((ways.way[w] >> 6 & PASS) != 0 && ways.way[w] >> 12 == k && wentOver(p, s, k)) {
                        return true;
                    }
                }
            }
            return false;
        }

        /** Whether PASS tells just the squares gone over from s, in order. */
        private static boolean wentOver(Position p, int s, int k) {
            int stride = k > 0 ? (p.passSquare(0) - s) / k : 0;
            for (int i = 1; i < k; i++) {
                if (p.passSquare(i) != s + i * stride) {
                    return false;
                }
            }
            return true;
        }

        /** Whether two positions are SAME. */
        boolean areAlike(Position p, Position q) {
            if (p.side != q.side || p.rights != q.rights) {
                return false;
            }
            for (int i = 0; i < 2; i++) {
                if (p.of[i] != q.of[i] || p.hand[i] != q.hand[i] || p.checks[i] != q.checks[i]) {
                    return false;
                }
            }
            for (int s = 0; s < law.squares; s++) {
                if (p.on[s] != q.on[s]) {
                    return false;
                }
            }
            return p.pass == q.pass || !mayCatch(p) && !mayCatch(q);
        }

        private boolean mayCatch(Position p) {
            int n = p.pass == 0 ? 0 : collect(p, room, MOST_MOVES);
            for (int i = 0; i < n; i++) {
                if (kindOf(room[i]) == CATCH_MOVE) {
                    return true;
                }
            }
            return false;
        }

        /** The squares that a side SEES. */
        long seenBy(Position p, int side) {
            long seen = p.of[side];
            long left = seen;
            for (int n = 0; n < BOARD && left != 0; n++) {
                int s = lowest(left);
                left &= left - 1;
                int end = ways.first[Ways.cell(p.on[s], s, BOARD)];
                for (int w = ways.first[Ways.cell(p.on[s], s, 0)]; w < end; w++) {
                    if (leads(p, w, side)) {
                        seen |= 1L << (ways.way[w] & 63);
                    }
                }
            }
            return seen;
        }
    }

    /** Reads and writes positions. */
    private static final class Scribe {
        private final Law law;
        private Text text;
        private int at;

        Scribe(Law law) {
            this.law = law;
        }

        /** Reads a text into a position: NONE, or the place of its FAULT. */
        int read(Text from, Position p) {
            text = from;
            at = 0;
            p.clear();
            boolean fits = readRanks(p) && takeByte(' ') && readSide(p) && takeByte(' ') && readRights(p)
                && takeByte(' ') && readPass(p) && takeByte(' ') && readHands(p) && takeByte(' ')
                && readChecks(p) && takeByte(' ') && readClock(p) && text.byteAt(at) == NONE;
            return fits ? NONE : at;
        }

        private boolean takeByte(int b) {
            if (text.byteAt(at) != b) {
                return false;
            }
            at++;
            return true;
        }

        private boolean readRanks(Position p) {
            for (int r = law.ranks - 1; r >= 0; r--) {
                if (r < law.ranks - 1 && !takeByte('/')) {
                    return false;
                }
                int f = 0;
                while (f < law.files) {
                    int b = text.byteAt(at);
                    int code = law.codeOf(b);
                    int empty = b >= '1' && b <= '8' ? b - '0' : 0;
                    if (code == NONE && (empty == 0 || f + empty > law.files)) {
                        return false;
                    }
                    if (code != NONE) {
                        p.put(r * law.files + f, code, law.royal);
                    }
                    f += code != NONE ? 1 : empty;
                    at++;
                }
            }
            return true;
        }

        private boolean readSide(Position p) {
            int b = text.byteAt(at);
            if (b != 'w' && b != 'b') {
                return false;
            }
            p.side = b == 'w' ? 0 : 1;
            at++;
            return true;
        }

        private int readSquare() {
            int f = text.byteAt(at) - 'a';
            if (f < 0 || f >= law.files) {
                return NONE;
            }
            at++;
            int r = text.byteAt(at) - '1';
            if (r < 0 || r >= law.ranks) {
                return NONE;
            }
            at++;
            return r * law.files + f;
        }

        private boolean readRights(Position p) {
            if (takeByte('-')) {
                return true;
            }
            int last = NONE;
            for (int i = 0; i <= BOARD && (i == 0 || text.byteAt(at) != ' '); i++) {
                int letter = at;
                int square = readSquare();
                if (square == NONE) {
                    return false;
                }
                if (square <= last) {
                    at = letter;
                    return false;
                }
                last = square;
                p.rights |= 1L << square;
            }
            return true;
        }

        private boolean readPass(Position p) {
            if (takeByte('-')) {
                return true;
            }
            for (int i = 0; i < TAPE_ROOM && (i < 2 || text.byteAt(at) != ' '); i++) {
                int square = readSquare();
                if (square == NONE) {
                    return false;
                }
                p.addPass(square);
            }
            return true;
        }

        private boolean readHands(Position p) {
            if (takeByte('-')) {
                return true;
            }
            for (int i = 0; i < 2 * MOST_IN_HAND && (i == 0 || text.byteAt(at) != ' '); i++) {
                int code = law.codeOf(text.byteAt(at));
                if (code == NONE || p.inHand(code & 1, code >> 1) >= MOST_IN_HAND) {
                    return false;
                }
                p.addToHand(code & 1, code >> 1, 1);
                at++;
            }
            return true;
        }

        private boolean readChecks(Position p) {
            for (int side = 0; side < 2; side++) {
                if (!LawReader.isDigit(text.byteAt(at))) {
                    return false;
                }
                p.checks[side] = text.byteAt(at) - '0';
                at++;
            }
            return true;
        }

        private boolean readClock(Position p) {
            int first = at;
            for (int i = 0; i < 3 && LawReader.isDigit(text.byteAt(at)); i++) {
                p.clock = 10 * p.clock + text.byteAt(at) - '0';
                at++;
            }
            if (p.clock > MOST_CLOCK) {
                at = first;
            }
            return at > first;
        }

        void writeAll(Position p, Text out) {
            writeRanks(p, -1, out);
            out.append(' ');
            out.append(p.side == 0 ? 'w' : 'b');
            out.append(' ');
            writeRights(p, out);
            out.append(' ');
            writePass(p, out);
            out.append(' ');
            writeHands(p, out);
            out.append(' ');
            out.append('0' + p.checks[0]);
            out.append('0' + p.checks[1]);
            out.append(' ');
            writeClock(p, out);
        }

        void writeRanks(Position p, long seen, Text out) {
            for (int r = law.ranks - 1; r >= 0; r--) {
                int empty = 0;
                for (int f = 0; f < law.files; f++) {
                    int s = r * law.files + f;
                    boolean hidden = (seen >>> s & 1) == 0;
                    if (!hidden && p.on[s] == NONE) {
                        empty++;
                        continue;
                    }
                    writeEmpty(empty, out);
                    empty = 0;
                    out.append(hidden ? '?' : law.letterOf(p.on[s]));
                }
                writeEmpty(empty, out);
                if (r > 0) {
                    out.append('/');
                }
            }
        }

        private static void writeEmpty(int empty, Text out) {
            if (empty > 0) {
                out.append('0' + empty);
            }
        }

        private void writeRights(Position p, Text out) {
            for (int s = 0; s < law.squares; s++) {
                if ((p.rights >>> s & 1) != 0) {
                    writeSquare(law, s, out);
                }
            }
            if (p.rights == 0) {
                out.append('-');
            }
        }

        private void writePass(Position p, Text out) {
            for (int i = 0; i < p.passSize(); i++) {
                writeSquare(law, p.passSquare(i), out);
            }
            if (p.pass == 0) {
                out.append('-');
            }
        }

        private void writeHands(Position p, Text out) {
            for (int side = 0; side < 2; side++) {
                for (int m = 0; m < law.men; m++) {
                    for (int i = 0; i < p.inHand(side, m); i++) {
                        out.append(law.letterOf(2 * m + side));
                    }
                }
            }
            if (p.hand[0] == 0 && p.hand[1] == 0) {
                out.append('-');
            }
        }

        private static void writeClock(Position p, Text out) {
            if (p.clock >= 100) {
                out.append('0' + p.clock / 100);
            }
            if (p.clock >= 10) {
                out.append('0' + p.clock / 10 % 10);
            }
            out.append('0' + p.clock % 10);
        }

        static void writeSquare(Law law, int s, Text out) {
            out.append('a' + law.fileOf[s]);
            out.append('1' + law.rankOf[s]);
        }
    }

    /** Tells LEGAL moves in SHORT TEXTS, and finds them by these. */
    private static final class Speaker {
        private final Law law;
        private final Referee referee;
        private final Position behind = new Position();
        private final Text heard = new Text(16);

        Speaker(Law law, Referee referee) {
            this.law = law;
            this.referee = referee;
        }

        /** The SHORT TEXT of move i of n, without what stands behind each text. */
        void writeMove(int[] list, int n, int i, Text out) {
            int move = list[i];
            int t = Referee.comeTo(move);
            int kind = Referee.kindOf(move);
            if (kind == CASTLING) {
                out.appendAll(t > Referee.leftBy(move) ? "O-O" : "O-O-O");
                return;
            }
            int man = Referee.manOf(move);
            if (kind == DROP) {
                out.append(law.letterOf(2 * man));
                out.append('@');
            } else {
                if (man != law.plain) {
                    out.append(law.letterOf(2 * man));
                }
                writeLeft(list, n, move, out);
            }
            if (Referee.takenBy(move) != NONE) {
                out.append('x');
            }
            Scribe.writeSquare(law, t, out);
            if (Referee.becomes(move) != NONE) {
                out.append('=');
                out.append(law.letterOf(2 * Referee.becomes(move)));
            }
        }

        /** As much of the square left as tells the man from others of its kind. */
        private void writeLeft(int[] list, int n, int move, Text out) {
            int s = Referee.leftBy(move);
            boolean any = false;
            boolean onFile = false;
            boolean onRank = false;
            for (int i = 0; i < n; i++) {
                int other = Referee.leftBy(list[i]);
                if (other != s && isRival(list[i], move)) {
                    any = true;
                    onFile = onFile || law.fileOf[other] == law.fileOf[s];
                    onRank = onRank || law.rankOf[other] == law.rankOf[s];
                }
            }
            boolean plainTakes = Referee.manOf(move) == law.plain && Referee.takenBy(move) != NONE;
            boolean file = plainTakes || any && (!onFile || onRank);
            boolean rank = onFile && (plainTakes || any);
            if (file) {
                out.append('a' + law.fileOf[s]);
            }
            if (rank) {
                out.append('1' + law.rankOf[s]);
            }
        }

        private static boolean isRival(int other, int move) {
            return Referee.manOf(other) == Referee.manOf(move) && Referee.comeTo(other) == Referee.comeTo(move)
                && Referee.kindOf(other) <= CATCH_MOVE;
        }

        /** What stands behind the text of a move: # or + or nothing. */
        int markOf(Position p, int move) {
            behind.copyFrom(p);
            referee.make(behind, move);
            int end = referee.endOf(behind);
            if (referee.winnerOf(behind, end) == p.side) {
                return '#';
            }
            return referee.isRoyalHit(behind, behind.side) ? '+' : NONE;
        }

        /** Which of n LEGAL moves a text is, whatever its last byte is, if it has one more. */
        int find(int[] list, int n, Text said) {
            for (int i = 0; i < n; i++) {
                heard.clear();
                writeMove(list, n, i, heard);
                int rest = said.length - heard.length;
                if ((rest == 0 || rest == 1) && begins(said)) {
                    return i;
                }
            }
            return NONE;
        }

        /** Whether the text that was found has nothing behind it. */
        boolean isWhole(Text said) {
            return said.length == heard.length;
        }

        private boolean begins(Text said) {
            for (int i = 0; i < heard.length; i++) {
                if (heard.byteAt(i) != said.byteAt(i)) {
                    return false;
                }
            }
            return true;
        }
    }

    /** Finds what is BEFORE a position. */
    private static final class Retro {
        private final Law law;
        private final Ways ways;
        private final Referee referee;
        /** The men asked for, BARE, with the side to move that a position before has. */
        private final Position base = new Position();
        private final Position board = new Position();
        /** What was found, in order: the square left, the one come to, the man before, the man taken. */
        private final int[] found = new int[MOST_BEFORE];
        int count;
        private boolean over;

        Retro(Law law, Ways ways, Referee referee) {
            this.law = law;
            this.ways = ways;
            this.referee = referee;
        }

        /** Finds all that are BEFORE a position: whether there is room for them. */
        boolean find(Position p) {
            count = 0;
            over = false;
            base.copyFrom(p);
            base.strip();
            base.side = 1 - p.side;
            if (referee.isRoyalHit(base, base.side) || law.has(SHY) && referee.isRoyalHit(base, p.side)) {
                return true;
            }
            long left = base.of[base.side];
            for (int n = 0; n < BOARD && left != 0 && !over; n++) {
                int t = lowest(left);
                left &= left - 1;
                int man = base.on[t] >> 1;
                takeBack(t, man);
                for (int m = 0; m < law.men && law.isLast(t, base.side); m++) {
                    if (law.becomesThis(m, man)) {
                        takeBack(t, m);
                    }
                }
            }
            if (over) {
                count = 0;
            }
            return !over;
        }

        /** All positions from which a man, as it was then, came to t. */
        private void takeBack(int t, int man) {
            int code = 2 * man + base.side;
            for (int taken = NONE; taken < law.men; taken++) {
                if (taken != NONE && taken == law.royal) {
                    continue;
                }
                long left = ways.origins(code, t, taken != NONE, base.occupied());
                for (int n = 0; n < BOARD && left != 0 && !over; n++) {
                    int s = lowest(left);
                    left &= left - 1;
                    int one = s | t << 6 | man << 12 | (taken == NONE ? NO_MAN : taken) << 16;
                    lay(board, one);
                    if (isBefore(taken)) {
                        keep(one);
                    }
                }
            }
        }

        /** Whether the position on the board may be, and its move was LEGAL, as far as other moves count. */
        private boolean isBefore(int taken) {
            if (referee.faultOf(board) != 0 || referee.earlyEnd(board) != 0) {
                return false;
            }
            if (taken != NONE || !law.has(MUST)) {
                return true;
            }
            int n = referee.collect(board, referee.room, MOST_MOVES);
            return n > 0 && Referee.takenBy(referee.room[0]) == NONE;
        }

        private void lay(Position p, int one) {
            p.copyFrom(base);
            p.put(one >> 6 & 63, takenIn(one), law.royal);
            p.put(one & 63, 2 * (one >> 12 & 15) + base.side, law.royal);
        }

        private int takenIn(int one) {
            int taken = one >> 16 & 15;
            return taken == NO_MAN ? NONE : 2 * taken + 1 - base.side;
        }

        private void keep(int one) {
            if (count >= MOST_BEFORE) {
                over = true;
                return;
            }
            int low = 0;
            int high = count;
            while (low < high) {
                int middle = low + high >> 1;
                if (comesFirst(found[middle], one)) {
                    low = middle + 1;
                } else {
                    high = middle;
                }
            }
            System.arraycopy(found, low, found, low + 1, count - low);
            found[low] = one;
            count++;
        }

        /** Whether the text of one comes ahead of that of the other; they differ in four squares at most. */
        private boolean comesFirst(int one, int other) {
            int s = NONE;
            for (int i = 0; i < 4; i++) {
                int place = (i < 2 ? one : other) >> 6 * (i & 1) & 63;
                boolean differs = standsOn(one, place) != standsOn(other, place);
                if (differs && (s == NONE || isWrittenFirst(place, s))) {
                    s = place;
                }
            }
            if (s == NONE) {
                return false;
            }
            int mine = standsOn(one, s);
            int its = standsOn(other, s);
            if (mine != NONE && its != NONE) {
                return law.letterOf(mine) < law.letterOf(its);
            }
            // A digit stands ahead of a letter, but where empty squares came before, the longer row is greater.
            boolean behindEmpty = law.fileOf[s] > 0 && standsOn(one, s - 1) == NONE;
            return mine == NONE != behindEmpty;
        }

        private boolean isWrittenFirst(int s, int t) {
            return law.rankOf[s] > law.rankOf[t] || law.rankOf[s] == law.rankOf[t] && s < t;
        }

        private int standsOn(int one, int square) {
            if (square == (one & 63)) {
                return 2 * (one >> 12 & 15) + base.side;
            }
            return square == (one >> 6 & 63) ? takenIn(one) : base.on[square];
        }

        void fillIn(Position p, int k) {
            if (k >= 0 && k < count) {
                lay(p, found[k]);
            }
        }
    }

    /** Solves ENDINGS: all positions of some SETS, back from those that have ENDED. */
    private static final class Endings {
        private static final int MOST_SETS = 1024;
        private static final int LARGEST = 5;
        private static final int OPEN = 3 * SURE, NOT_RIGHT = 4 * SURE;
        private static final int TAKE = 1 << 12, COUNT = TAKE - 1, TAKES_ALONE = 1 << 24;

        private final Law law;
        private final Ways ways;
        private final Referee referee;
        private final Position board = new Position();
        /** A SET's key: its codes, rising, each one more and in 5 bits, the least one lowest. */
        private final int[] keys = new int[MOST_SETS];
        private final int[] starts = new int[MOST_SETS + 1];
        private final int[] powers = new int[LARGEST + 1];
        /** Men in a row, rising: 64 times the code, and the square. */
        private final int[] row = new int[LARGEST];
        private int rowSize;
        int sets;
        boolean solved;
        int[] worths = new int[0];
        /** How many LEGAL moves of a position do not lose yet. */
        private int[] left = new int[0];
        private int[] queue = new int[0];
        private int asked, told, tail, current;
        private long total;

        Endings(Law law, Ways ways, Referee referee) {
            this.law = law;
            this.ways = ways;
            this.referee = referee;
        }

        /** Reads the SET that is asked for: NONE, or the place of its FAULT. */
        int read(Text text) {
            int royals = 0;
            int key = 0;
            for (int i = 0; i < text.length; i++) {
                int code = law.codeOf(text.byteAt(i));
                if (i >= LARGEST || code == NONE) {
                    return i;
                }
                if (code >> 1 == law.royal) {
                    if ((royals >> (code & 1) & 1) != 0) {
                        return i;
                    }
                    royals |= 1 << (code & 1);
                }
                key = with(key, code);
            }
            asked = key;
            return text.length < 2 ? text.length : NONE;
        }

        /** Solves the SET that was read, and all that come of it: whether there is room for them. */
        boolean run() {
            solved = false;
            if (!gatherSets()) {
                return false;
            }
            makeRoom();
            told = asked;
            tail = 0;
            markAll();
            current = OPEN;
            countAll();
            queueEnds();
            for (int head = 0; head < tail && head < MOST_SIZE; head++) {
                int node = queue[head];
                int set = setOf(node);
                current = worths[node];
                if (layOut(keys[set], node - starts[set] >> 1)) {
                    goBack(node - starts[set] & 1);
                }
            }
            for (int node = 0; node < (int) total; node++) {
                worths[node] = worths[node] == OPEN ? 0 : worths[node];
            }
            solved = true;
            return true;
        }

        private static int with(int key, int code) {
            int shift = 0;
            while (shift < 5 * LARGEST && (key >> shift & 31) != 0 && (key >> shift & 31) <= code + 1) {
                shift += 5;
            }
            int low = key & (1 << shift) - 1;
            return low | code + 1 << shift | key >> shift << shift + 5;
        }

        private static int without(int key, int slot) {
            int shift = 5 * slot;
            return key & (1 << shift) - 1 | key >> shift + 5 << shift;
        }

        private static int codeIn(int key, int slot) {
            return (key >> 5 * slot & 31) - 1;
        }

        private static int sizeOf(int key) {
            int size = 0;
            while (size < LARGEST && codeIn(key, size) != NONE) {
                size++;
            }
            return size;
        }

        private boolean gatherSets() {
            powers[0] = 1;
            for (int i = 1; i <= LARGEST; i++) {
                powers[i] = powers[i - 1] * law.squares;
            }
            sets = 0;
            total = 0;
            addSet(asked);
            for (int i = 0; i < sets && i < MOST_SETS && total <= MOST_SIZE; i++) {
                addSetsOf(keys[i]);
            }
            if (total > MOST_SIZE) {
                return false;
            }
            sortSets();
            return true;
        }

        private void addSetsOf(int key) {
            for (int slot = 0; slot < sizeOf(key); slot++) {
                int code = codeIn(key, slot);
                int man = code >> 1;
                if (man == law.royal) {
                    continue;
                }
                int rest = without(key, slot);
                addSet(rest);
                for (int i = 0; i < law.becomesCount[man]; i++) {
                    addSet(with(rest, 2 * law.becomes[man * MOST_BECOME + i] + (code & 1)));
                }
            }
        }

        private void addSet(int key) {
            for (int i = 0; i < sets; i++) {
                if (keys[i] == key) {
                    return;
                }
            }
            total += 2L * powers[sizeOf(key)];
            if (total <= MOST_SIZE && sets < MOST_SETS) {
                keys[sets] = key;
                sets++;
            }
        }

        private void sortSets() {
            for (int i = 1; i < sets; i++) {
                int key = keys[i];
                int j = i;
                while (j > 0 && keys[j - 1] > key) {
                    keys[j] = keys[j - 1];
                    j--;
                }
                keys[j] = key;
            }
            starts[0] = 0;
            for (int i = 0; i < sets; i++) {
                starts[i + 1] = starts[i] + 2 * powers[sizeOf(keys[i])];
            }
        }

        /** Once, for the greatest SETS that there may be, so that no later solve() makes rows again. */
        private void makeRoom() {
            if (worths.length < MOST_SIZE) {
                worths = new int[MOST_SIZE];
                left = new int[MOST_SIZE];
                queue = new int[MOST_SIZE];
            }
        }

        private int findSet(int key) {
            int low = 0;
            int high = sets - 1;
            while (low <= high) {
                int middle = low + high >> 1;
                if (keys[middle] == key) {
                    return middle;
                }
                if (keys[middle] < key) {
                    low = middle + 1;
                } else {
                    high = middle - 1;
                }
            }
            return NONE;
        }

        private int setOf(int node) {
            int low = 0;
            int high = sets - 1;
            while (low < high) {
                int middle = low + high + 1 >> 1;
                if (starts[middle] <= node) {
                    low = middle;
                } else {
                    high = middle - 1;
                }
            }
            return low;
        }

        /**
         * Puts a SET's men on the squares that a number tells: false, if two share one, if like men do not rise
         * (so that each position has one number), or if one that becomes others is on its last rank.
         */
        private boolean layOut(int key, int number) {
            long men = board.occupied();
            for (int n = 0; n < BOARD && men != 0; n++) {
                board.put(lowest(men), NONE, law.royal);
                men &= men - 1;
            }
            int size = sizeOf(key);
            int squares = law.squares;
            int rest = number;
            int last = NONE;
            for (int slot = 0; slot < size && squares > 0; slot++) {
                int square = rest % squares;
                rest /= squares;
                int code = codeIn(key, slot);
                boolean falls = last >> 6 == code && last > (code << 6 | square);
                boolean late = law.becomesOthers(code >> 1) && law.isLast(square, code & 1);
                if (falls || late || board.on[square] != NONE) {
                    return false;
                }
                last = code << 6 | square;
                board.put(square, code, law.royal);
            }
            return true;
        }

        /** Marks what is not RIGHT, and what has ENDED by 1 to 4. */
        private void markAll() {
            for (int set = 0; set < sets; set++) {
                int numbers = starts[set + 1] - starts[set] >> 1;
                for (int number = 0; number < numbers; number++) {
                    boolean stands = layOut(keys[set], number);
                    int node = starts[set] + 2 * number;
                    for (int side = 0; side < 2; side++) {
                        worths[node + side] = stands ? earlyWorth(side) : NOT_RIGHT;
                        left[node + side] = 0;
                    }
                }
            }
        }

        private int earlyWorth(int side) {
            board.side = side;
            // What else makes a position RIGHT holds for BARE ones of a SET, as layOut() puts them.
            if (referee.isRoyalHit(board, 1 - side)) {
                return NOT_RIGHT;
            }
            int end = referee.earlyEnd(board);
            return end == 0 ? OPEN : endWorth(end);
        }

        private int endWorth(int end) {
            int winner = referee.winnerOf(board, end);
            return winner == DRAWN ? 0 : winner == board.side ? SURE : -SURE;
        }

        /** Counts each position's LEGAL moves: they lead to the RIGHT ones that it is before. */
        private void countAll() {
            for (int set = 0; set < sets; set++) {
                int numbers = starts[set + 1] - starts[set] >> 1;
                for (int number = 0; number < numbers; number++) {
                    int node = starts[set] + 2 * number;
                    boolean any = worths[node] != NOT_RIGHT || worths[node + 1] != NOT_RIGHT;
                    if (!any || !layOut(keys[set], number)) {
                        continue;
                    }
                    for (int side = 0; side < 2; side++) {
                        if (worths[node + side] != NOT_RIGHT) {
                            goBack(side);
                        }
                    }
                }
            }
        }

        private void queueEnds() {
            for (int set = 0; set < sets; set++) {
                for (int node = starts[set]; node < starts[set + 1]; node++) {
                    if (worths[node] == OPEN) {
                        settleCount(node);
                    }
                    boolean stuck = worths[node] == OPEN && (left[node] & COUNT) == 0;
                    if (stuck && layOut(keys[set], node - starts[set] >> 1)) {
                        board.side = node - starts[set] & 1;
                        worths[node] = endWorth(referee.isRoyalHit(board, board.side) ? 5 : 6);
                    }
                    if (worths[node] == SURE || worths[node] == -SURE) {
                        push(node);
                    }
                }
            }
        }

        private void settleCount(int node) {
            int takes = left[node] / TAKE;
            int others = left[node] & COUNT;
            left[node] = law.has(MUST) && takes > 0 ? takes | TAKES_ALONE : takes + others;
        }

        private void push(int node) {
            if (tail < queue.length) {
                queue[tail] = node;
                tail++;
            }
        }

        /** Goes to all positions from which a LEGAL move leads to the one on the board, with a side to move. */
        private void goBack(int side) {
            int mover = 1 - side;
            if (law.has(SHY) && referee.isRoyalHit(board, side)) {
                return;
            }
            long men = board.of[mover];
            for (int n = 0; n < BOARD && men != 0; n++) {
                int t = lowest(men);
                men &= men - 1;
                int code = board.on[t];
                takeBack(t, code);
                for (int m = 0; m < law.men && law.isLast(t, mover); m++) {
                    if (law.becomesThis(m, code >> 1)) {
                        takeBack(t, 2 * m + mover);
                    }
                }
            }
        }

        /** The man on t came there as one with a code. */
        private void takeBack(int t, int code) {
            takeBackTaking(t, code, NONE);
            if (Long.bitCount(board.occupied()) >= sizeOf(told)) {
                return;
            }
            for (int m = 0; m < law.men; m++) {
                if (m != law.royal) {
                    takeBackTaking(t, code, 2 * m + 1 - (code & 1));
                }
            }
        }

        private void takeBackTaking(int t, int code, int taken) {
            gatherRow(board, t, taken);
            int set = findSet(with(keyOfRow(), code));
            if (set == NONE) {
                return;
            }
            int start = starts[set] + (code & 1);
            int least = numberOf(code << 6);
            int weight = weightOf(code);
            long men = ways.origins(code, t, taken != NONE, board.occupied());
            for (int n = 0; n < BOARD && men != 0; n++) {
                int s = lowest(men);
                men &= men - 1;
                int number = weight > 0 ? least + s * weight : numberOf(code << 6 | s);
                touch(start + 2 * number, taken != NONE);
            }
        }

        /** What a square counts of a man that comes to the row; 0, if like men are there. */
        private int weightOf(int code) {
            int slot = 0;
            for (int i = 0; i < rowSize; i++) {
                if (row[i] >> 6 == code) {
                    return 0;
                }
                slot += row[i] >> 6 < code ? 1 : 0;
            }
            return powers[slot];
        }

        /** The men of a position into the row, but for the square without, where taken stands instead. */
        private void gatherRow(Position p, int without, int taken) {
            rowSize = 0;
            long men = p.occupied();
            for (int n = 0; n < BOARD && men != 0; n++) {
                int s = lowest(men);
                men &= men - 1;
                int code = s == without ? taken : p.on[s];
                if (code != NONE && rowSize < LARGEST) {
                    addToRow(code << 6 | s);
                }
            }
        }

        private void addToRow(int man) {
            int i = rowSize;
            while (i > 0 && row[i - 1] > man) {
                row[i] = row[i - 1];
                i--;
            }
            row[i] = man;
            rowSize++;
        }

        private int keyOfRow() {
            int key = 0;
            for (int i = 0; i < rowSize; i++) {
                key |= (row[i] >> 6) + 1 << 5 * i;
            }
            return key;
        }

        /** The number of the row's squares, with one man more. */
        private int numberOf(int man) {
            int number = 0;
            int slot = 0;
            boolean placed = man == NONE;
            for (int i = 0; i < rowSize; i++) {
                if (!placed && row[i] > man) {
                    number += (man & 63) * powers[slot];
                    slot++;
                    placed = true;
                }
                number += (row[i] & 63) * powers[slot];
                slot++;
            }
            return placed ? number : number + (man & 63) * powers[slot];
        }

        /** A position from which the one at hand is come to. */
        private void touch(int node, boolean taking) {
            if (worths[node] != OPEN) {
                return;
            }
            if (current == OPEN) {
                left[node] += taking ? TAKE : 1;
                return;
            }
            if (!taking && (left[node] & TAKES_ALONE) != 0) {
                return;
            }
            if (current < 0) {
                worths[node] = -current - 1;
                push(node);
                return;
            }
            left[node]--;
            if ((left[node] & COUNT) == 0) {
                worths[node] = 1 - current;
                push(node);
            }
        }

        /** Where the worth of a position's men and SIDE stands; NONE, if these are not solved. */
        int nodeOfAll(Position p) {
            if (!solved || Long.bitCount(p.occupied()) > LARGEST) {
                return NONE;
            }
            gatherRow(p, NONE, NONE);
            int set = findSet(keyOfRow());
            return set == NONE ? NONE : starts[set] + 2 * numberOf(NONE) + p.side;
        }

        int countWorth(int side, int worth) {
            int set = findSet(told);
            int sum = 0;
            for (int node = set == NONE ? 0 : starts[set]; set != NONE && node < starts[set + 1]; node += 2) {
                sum += worths[node + side] == worth ? 1 : 0;
            }
            return sum;
        }
    }

    /** Counts ROWS, and solves PROBLEMS by all of them. */
    private static final class Problems {
        private static final int DIRECT = 0, SELF = 1, HELP = 2, SERIES = 3, ROWS = 4;
        private static final int DEEPEST = 8;

        private final Referee referee;
        private final Position[] path = new Position[DEEPEST + 1];
        private final int[][] lists = new int[DEEPEST][MOST_MOVES];
        /** By what the position behind so many moves has ENDED. */
        private final int[] ends = new int[DEEPEST + 1];
        private final int[] rowCount = new int[DEEPEST];
        private int kind, goal, last, firstMoves;
        boolean over;
        /** Of each first move: how many ways it has, and how many replies refute it. */
        private final int[] ways = new int[MOST_MOVES];
        private final int[] refuting = new int[MOST_MOVES];
        private final int[] keys = new int[MOST_MOVES];
        private final int[] refuted = new int[MOST_MOVES];
        private int keyCount, refutedCount;
        private int place = NONE;

        Problems(Referee referee) {
            this.referee = referee;
            for (int i = 0; i <= DEEPEST; i++) {
                path[i] = new Position();
            }
        }

        void set(Position p, int newKind, int newGoal, int n) {
            kind = newKind;
            goal = newGoal;
            last = kind == DIRECT ? 2 * n - 1 : kind == SERIES ? n : 2 * n;
            over = false;
            Arrays.fill(rowCount, 0);
            path[0].copyFrom(p);
        }

        void setRows(Position p, int k) {
            set(p, ROWS, 0, 0);
            last = k;
        }

        /**
         * Goes along all ROWS behind depth moves. For kinds 0 and 1 it tells how many moves are such, or, where
         * the other side is to move, how many replies refute; for the others how many rows there are.
         */
        private int tree(int depth) {
            if (depth < 0 || depth >= last || depth >= DEEPEST) {
                return 0;
            }
            int[] list = lists[depth];
            int n = referee.collect(path[depth], list, MOST_MOVES);
            firstMoves = depth == 0 ? n : firstMoves;
            ends[depth] = n > 0 ? 0 : referee.endOf(path[depth]);
            rowCount[depth] += n;
            over = over || rowCount[depth] > MOST_ROWS;
            if (kind == ROWS && depth + 1 == last) {
                return n;
            }
            int sum = 0;
            for (int i = 0; i < n && !over; i++) {
                Position next = path[depth + 1];
                next.copyFrom(path[depth]);
                referee.make(next, list[i]);
                if (depth + 1 == last || kind == SERIES) {
                    ends[depth + 1] = referee.endOf(next);
                }
                int branch = branch(depth, i);
                if (depth == 0) {
                    ways[i] = branch;
                }
                sum += branch;
            }
            return sum;
        }

        /** What move i behind depth moves adds to the tree's sum. */
        private int branch(int depth, int i) {
            switch (kind) {
                case DIRECT:
                case SELF:
                    return (depth & 1) == 0 ? attempt(depth, i) : reply(depth);
                case HELP:
                    return depth + 1 < last ? tree(depth + 1) : isGoal(depth + 1) ? 1 : 0;
                case SERIES:
                    return depth + 1 < last ? goOn(depth) : isGoal(depth + 1) ? 1 : 0;
                default:
                    return tree(depth + 1);
            }
        }

        /** 1, if the move is such as the problem asks for. */
        private int attempt(int depth, int i) {
            boolean more = depth + 1 < last;
            int refutations = more ? tree(depth + 1) : 0;
            if (depth == 0) {
                refuting[i] = more ? refutations : referee.collect(path[1], lists[1], MOST_MOVES);
            }
            boolean such = ends[depth + 1] == 0 ? more && refutations == 0 : kind == DIRECT && isGoal(depth + 1);
            return such ? 1 : 0;
        }

        /** 1, if the reply refutes. */
        private int reply(int depth) {
            boolean such = depth + 1 < last && tree(depth + 1) > 0;
            return such || kind == SELF && isGoal(depth + 1) ? 0 : 1;
        }

        /** Rows of a SERIES that go on behind a move that is not the last one. */
        private int goOn(int depth) {
            Position p = path[depth + 1];
            if (ends[depth + 1] != 0 || referee.isRoyalHit(p, p.side)) {
                return 0;
            }
            p.side = 1 - p.side;
            p.clearPass();
            return tree(depth + 1);
        }

        /** Whether the GOAL is made by the last one of depth moves. */
        private boolean isGoal(int depth) {
            switch (goal) {
                case 0: return ends[depth] == 5;
                case 1: return ends[depth] == 6;
                default: return referee.winnerOf(path[depth], ends[depth]) == 1 - path[depth].side;
            }
        }

        /** Keeps what was found for key() and refutes(). */
        void keep(int newPlace) {
            place = newPlace;
            keyCount = 0;
            for (int i = 0; i < firstMoves; i++) {
                if (ways[i] > 0) {
                    keys[keyCount] = i;
                    keyCount++;
                }
            }
            refutedCount = kind == DIRECT || kind == SELF ? firstMoves : 0;
            System.arraycopy(refuting, 0, refuted, 0, refutedCount);
        }

        /** The position at a place is no more. */
        void forget(int gone) {
            if (place == gone) {
                place = NONE;
                keyCount = 0;
                refutedCount = 0;
            }
        }

        int keyAt(int k) {
            return k >= 0 && k < keyCount ? keys[k] : NONE;
        }

        int refutesOf(int i) {
            return i >= 0 && i < refutedCount ? refuted[i] : NONE;
        }
    }
}
