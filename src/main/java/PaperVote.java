import java.util.NoSuchElementException;

/** A hall in which paper darts are ballots; the document's promises 1 to 54. */
public final class PaperVote {
    public static final int NONE = -1;

    private static final int NOBODY = -2;

    private static final int NO_TROUBLE = 0;
    private static final int NONE_SUCH = 1;
    private static final int BAD_NUMBER = 2;
    private static final int NO_ROOM = 3;
    private static final int FAULTY = 4;
    private static final int NOT_SO = 5;
    private static final int NOTHING_THERE = 6;

    private static final int MAX_SPEAKERS = 4;
    private static final int MAX_MEMBERS = 6;
    private static final int MAX_LAMPS = 3;
    private static final int MAX_FLIGHTS = 5;
    private static final int MAX_UNKNOWN = 3;
    private static final int MAX_COLUMNS = 12;
    private static final int MAX_ROWS = 6;
    private static final int MAX_SESSIONS = 90;
    private static final int MAX_SEED = 65536;

    private static final int PLAIN = 0;
    private static final int STABLE = 1;
    private static final int LOOP = 2;
    private static final int FLAT = 3;

    // An error of half a hundredth is possible, so odds are counted in two hundredths.
    private static final int PARTS = 200;

    private final Tape tape;
    private final Reader reader;
    private final Past past;
    private final Odds odds;
    private final Places places;
    private final Fog fog;
    private final Sway sway;
    private final Draws draws;
    private Hall present;
    private Hall draft;
    private int refusal;
    private int latestFault;
    private int faultPlace;

    public PaperVote() {
        reader = new Reader();
        tape = reader.tape;
        past = new Past();
        odds = new Odds();
        places = new Places();
        fog = new Fog();
        sway = new Sway();
        draws = new Draws();
        present = new Hall();
        draft = new Hall();
        refusal = NO_TROUBLE;
        latestFault = 0;
        faultPlace = NONE;
    }

    // ---- the hall

    public int feed(int a, int b, int c, int d, int e) {
        if (!tape.hasRoom()) {
            return NONE;
        }
        tape.append(a);
        tape.append(b);
        tape.append(c);
        tape.append(d);
        tape.append(e);
        return tape.length;
    }

    public int hall(int n) {
        if (n < 0 || n > tape.length) {
            return refuse(BAD_NUMBER);
        }
        reader.read(n, draft);
        tape.length = 0;
        latestFault = reader.found;
        if (latestFault != 0) {
            faultPlace = reader.foundAt;
            return refuse(FAULTY);
        }
        Hall old = present;
        present = draft;
        draft = old;
        past.forgetAll();
        refusal = NO_TROUBLE;
        return present.speakers;
    }

    public int fault() {
        return latestFault;
    }

    public int where() {
        return refusal == FAULTY ? faultPlace : NONE;
    }

    // ---- now

    public int speaker(int s, int what) {
        if (!granted(present.hasSpeaker(s) && what >= 0 && what <= 3)) {
            return NONE;
        }
        switch (what) {
            case 0:
                return present.now[Hall.COLUMN + s];
            case 1:
                return present.now[Hall.ROW + s];
            case 2:
                return present.now[Hall.WON + s];
            default:
                return present.ballotsFor(s);
        }
    }

    public int member(int m, int what) {
        if (!granted(present.hasMember(m) && what >= 0 && what <= 5)) {
            return NONE;
        }
        switch (what) {
            case 0:
                return present.now[Hall.FOLD + m];
            case 1:
                return present.now[Hall.SEAT + m];
            case 2:
                return present.now[Hall.FAR + m];
            case 3:
                return present.sharp[m];
            case 4:
                return present.errs[m];
            default:
                return present.sharp[m] <= present.nose ? 1 : 0;
        }
    }

    public int air(int row) {
        if (!granted(present.hasRow(row))) {
            return NONE;
        }
        return present.now[Hall.AIR + row];
    }

    public int lamp(int column, int row) {
        if (!granted(present.hasPlace(column, row))) {
            return NONE;
        }
        return present.isLamp(column, row) ? 1 : 0;
    }

    public int lands(int m) {
        if (!granted(present.hasMember(m))) {
            return NONE;
        }
        return 10 * present.dartColumn(m) + present.dartRow(m);
    }

    public int votes(int m) {
        if (!granted(present.hasMember(m))) {
            return NONE;
        }
        return present.ballotOf(m);
    }

    public int nearest(int column, int row) {
        if (!granted(present.hasPlace(column, row))) {
            return NONE;
        }
        return present.nearestTo(column, row);
    }

    public int winner() {
        if (!granted(present.stands())) {
            return NONE;
        }
        return present.leader();
    }

    public int counted() {
        if (!granted(present.stands())) {
            return NONE;
        }
        int sum = 0;
        for (int m = 0; m < present.members; m++) {
            if (present.ballotOf(m) != NOBODY) {
                sum++;
            }
        }
        return sum;
    }

    public int hang() {
        if (!granted(present.stands())) {
            return NONE;
        }
        int bits = 0;
        for (int m = 0; m < present.members; m++) {
            if (present.isLamp(present.dartColumn(m), present.dartRow(m))) {
                bits |= 1 << m;
            }
        }
        return bits;
    }

    public int thickest() {
        if (!granted(present.stands())) {
            return NONE;
        }
        return places.thickestPlace(present);
    }

    // ---- odds

    public long likely(int m, int s, boolean lower) {
        if (!granted(present.hasMember(m) && present.hasSpeaker(s))) {
            return NONE;
        }
        return Odds.inLowestTerms(present.chanceNow(m, s), PARTS, lower);
    }

    public long wins(int s, boolean lower) {
        if (!granted(present.hasSpeaker(s))) {
            return NONE;
        }
        odds.weighWins(present);
        return Odds.inLowestTerms(odds.winning[s], Odds.allParts(present.members), lower);
    }

    public long just(int s, int many, boolean lower) {
        if (!granted(present.hasSpeaker(s))) {
            return NONE;
        }
        if (many < 0 || many > MAX_MEMBERS) {
            return refuse(BAD_NUMBER);
        }
        odds.weighCounts(present, s);
        return Odds.inLowestTerms(odds.spread[many], Odds.allParts(present.members), lower);
    }

    public long mean(int s, boolean lower) {
        if (!granted(present.hasSpeaker(s))) {
            return NONE;
        }
        long sum = 0;
        for (int m = 0; m < present.members; m++) {
            sum += present.chanceNow(m, s);
        }
        return Odds.inLowestTerms(sum, PARTS, lower);
    }

    public int favourite() {
        if (!granted(present.stands())) {
            return NONE;
        }
        odds.weighWins(present);
        return odds.likeliest(present.speakers);
    }

    // ---- folds, places

    public int bestFold(int m, int s) {
        if (!granted(present.hasMember(m) && present.hasSpeaker(s))) {
            return NONE;
        }
        odds.seekFold(present, m, s);
        return 10 * odds.bestFold + odds.bestRow;
    }

    public long bestLikely(int m, int s, boolean lower) {
        if (!granted(present.hasMember(m) && present.hasSpeaker(s))) {
            return NONE;
        }
        odds.seekFold(present, m, s);
        return Odds.inLowestTerms(odds.bestChance, PARTS, lower);
    }

    public int bestSeat(int m, int s) {
        if (!granted(present.hasMember(m) && present.hasSpeaker(s))) {
            return NONE;
        }
        return odds.seekSeat(present, m, s);
    }

    public int place(int s) {
        if (!granted(present.hasSpeaker(s))) {
            return NONE;
        }
        places.seekPlace(present, s);
        return 10 * places.bestColumn + places.bestRow;
    }

    public int placeVotes(int s) {
        if (!granted(present.hasSpeaker(s))) {
            return NONE;
        }
        places.seekPlace(present, s);
        return places.bestVotes;
    }

    public int game(int s, int column, int other, int others, boolean ofOther) {
        boolean columns = present.hasColumn(column) && present.hasColumn(others);
        if (!granted(areTwo(s, other) && columns)) {
            return NONE;
        }
        places.gather(present);
        places.cells[Hall.COLUMN + s] = column;
        places.cells[Hall.COLUMN + other] = others;
        return places.ballotsFor(ofOther ? other : s);
    }

    public int rests(int s, int other) {
        if (!granted(areTwo(s, other))) {
            return NONE;
        }
        places.seekRests(present, s, other);
        return places.restsFound;
    }

    public int rest(int s, int other) {
        if (!granted(areTwo(s, other))) {
            return NONE;
        }
        places.seekRests(present, s, other);
        return places.firstRest;
    }

    // ---- airs

    public int airs() {
        if (!granted(present.stands())) {
            return NONE;
        }
        fog.seekAirs(present);
        return fog.left;
    }

    public int could(int row) {
        if (!grantedUnknown(row)) {
            return NONE;
        }
        fog.seekAirs(present);
        return fog.seen[row];
    }

    public int surely(int row) {
        if (!grantedUnknown(row)) {
            return NONE;
        }
        fog.seekAirs(present);
        return fog.onlyDrift(row);
    }

    public int toThrow() {
        if (!grantedThrow()) {
            return NONE;
        }
        fog.seekThrow(present);
        return fog.left == 0 ? NOBODY : 10 * fog.throwSeat + fog.throwRow;
    }

    public int throwLeaves() {
        if (!grantedThrow()) {
            return NONE;
        }
        fog.seekThrow(present);
        return fog.left == 0 ? NOBODY : fog.throwLeft;
    }

    public int judge() {
        if (!granted(present.stands())) {
            return NONE;
        }
        for (int f = 0; f < present.flights; f++) {
            int column = present.columnBy(PLAIN, present.flightSeats[f], present.flightRows[f]);
            if (column != present.flightColumns[f]) {
                return f;
            }
        }
        return NOBODY;
    }

    // ---- power, the rake

    public int power(int m) {
        if (!granted(present.hasMember(m))) {
            return NONE;
        }
        return sway.powerOf(present, m);
    }

    public int mighty() {
        if (!granted(present.stands())) {
            return NONE;
        }
        return sway.mightiest(present);
    }

    public int rake() {
        if (!granted(present.stands())) {
            return NONE;
        }
        return sway.rakeSteps(present);
    }

    // ---- sessions by draws

    public int sessions(int s, int seed, int n) {
        if (!granted(present.hasSpeaker(s)) || !grantedRun(seed, n)) {
            return NONE;
        }
        draws.holdMany(present, seed, n);
        return draws.won[s];
    }

    public int darts(int seed, int n) {
        if (!granted(present.stands()) || !grantedRun(seed, n)) {
            return NONE;
        }
        draws.holdMany(present, seed, n);
        return draws.counting;
    }

    public int lucky(int m, int seed, int n) {
        if (!granted(present.hasMember(m)) || !grantedRun(seed, n)) {
            return NONE;
        }
        draws.holdMany(present, seed, n);
        return draws.withWinner[m];
    }

    // ---- acts

    public boolean sit(int m, int column) {
        if (!granted(present.hasMember(m) && present.hasColumn(column))) {
            return false;
        }
        return change(Hall.SEAT + m, column);
    }

    public boolean fold(int m, int fold) {
        if (!granted(present.hasMember(m)) || !grantedNumber(fold, PLAIN, FLAT)) {
            return false;
        }
        return change(Hall.FOLD + m, fold);
    }

    public boolean aim(int m, int row) {
        if (!granted(present.hasMember(m) && present.hasRow(row))) {
            return false;
        }
        return change(Hall.FAR + m, row);
    }

    public boolean warm(int row, int drift) {
        if (!granted(present.hasRow(row)) || !grantedNumber(drift, 0, Hall.UNKNOWN - 1)) {
            return false;
        }
        return change(Hall.AIR + row, drift);
    }

    public boolean stand(int s, int column, int row) {
        if (!granted(present.hasSpeaker(s) && present.hasPlace(column, row))) {
            return false;
        }
        if (present.isLamp(column, row) || present.isSpeaker(column, row)) {
            refusal = NOT_SO;
            return false;
        }
        past.keep(present.now);
        present.now[Hall.COLUMN + s] = column;
        present.now[Hall.ROW + s] = row;
        return true;
    }

    public int session() {
        if (!granted(present.stands())) {
            return NONE;
        }
        past.keep(present.now);
        draws.begin(present, present.now[Hall.SEED]);
        int first = draws.holdOne(present);
        present.now[Hall.SEED] = draws.latest;
        present.now[Hall.HELD]++;
        if (first >= 0) {
            present.now[Hall.WON + first]++;
        }
        return first;
    }

    public boolean seed(int v) {
        if (!granted(present.stands()) || !grantedNumber(v, 0, MAX_SEED)) {
            return false;
        }
        present.now[Hall.SEED] = v;
        return true;
    }

    public boolean undo() {
        if (past.kept == 0) {
            refusal = NOTHING_THERE;
            return false;
        }
        refusal = NO_TROUBLE;
        past.takeBack(present.now);
        return true;
    }

    public int image() {
        if (!granted(present.stands())) {
            return NONE;
        }
        if (!past.hasImageRoom()) {
            return refuse(NO_ROOM);
        }
        return past.takeImage(present.now);
    }

    public boolean back(int image) {
        if (!granted(image >= 0 && image < past.images)) {
            return false;
        }
        past.goBack(image, present.now);
        return true;
    }

    // ---- what is told

    public int led(int i) throws NoSuchElementException {
        int first = present.stands() ? present.leader() : NOBODY;
        int seen = 0;
        for (int m = 0; m < present.members && first >= 0; m++) {
            if (present.ballotOf(m) == first) {
                if (seen == i) {
                    return m;
                }
                seen++;
            }
        }
        throw new NoSuchElementException();
    }

    public int size(int what) {
        switch (what) {
            case 0:
                return present.columns;
            case 1:
                return present.rows;
            case 2:
                return present.nose;
            case 3:
                return present.speakers;
            case 4:
                return present.members;
            case 5:
                return present.lamps;
            case 6:
                return present.flights;
            case 7:
                return present.unknownRows();
            case 8:
                return present.now[Hall.HELD];
            case 9:
                return present.now[Hall.SEED];
            case 10:
                return past.kept;
            case 11:
                return past.images;
            case 12:
                return tape.length;
            default:
                return NONE;
        }
    }

    public int trouble() {
        return refusal;
    }

    // ---- refusals

    private int refuse(int number) {
        refusal = number;
        return NONE;
    }

    private boolean granted(boolean there) {
        refusal = there ? NO_TROUBLE : NONE_SUCH;
        return there;
    }

    private boolean grantedNumber(int number, int low, int high) {
        boolean within = number >= low && number <= high;
        refusal = within ? NO_TROUBLE : BAD_NUMBER;
        return within;
    }

    private boolean grantedRun(int seed, int n) {
        return grantedNumber(seed, 0, MAX_SEED) && grantedNumber(n, 1, MAX_SESSIONS);
    }

    private boolean grantedUnknown(int row) {
        if (!granted(present.hasRow(row))) {
            return false;
        }
        boolean unknown = present.now[Hall.AIR + row] == Hall.UNKNOWN;
        refusal = unknown ? NO_TROUBLE : NOT_SO;
        return unknown;
    }

    private boolean grantedThrow() {
        if (!granted(present.stands())) {
            return false;
        }
        boolean some = present.unknownRows() > 0;
        refusal = some ? NO_TROUBLE : NOTHING_THERE;
        return some;
    }

    private boolean areTwo(int s, int other) {
        return s != other && present.hasSpeaker(s) && present.hasSpeaker(other);
    }

    /** An ACT by which one cell of NOW gets another value. */
    private boolean change(int cell, int value) {
        if (present.now[cell] == value) {
            refusal = NOT_SO;
            return false;
        }
        past.keep(present.now);
        present.now[cell] = value;
        return true;
    }

    /** What a HALL was told to be, and all that acts may change of it, in one row of cells. */
    private static final class Hall {
        static final int SEAT = 0;
        static final int FOLD = SEAT + MAX_MEMBERS;
        static final int FAR = FOLD + MAX_MEMBERS;
        // Airs stand at their row's number, so the cell of row 0 is never used.
        static final int AIR = FAR + MAX_MEMBERS;
        static final int COLUMN = AIR + MAX_ROWS + 1;
        static final int ROW = COLUMN + MAX_SPEAKERS;
        static final int WON = ROW + MAX_SPEAKERS;
        static final int HELD = WON + MAX_SPEAKERS;
        static final int SEED = HELD + 1;
        static final int CELLS = SEED + 1;

        static final int STILL = 3;
        static final int UNKNOWN = 7;

        final int[] now;
        final int[] sharp;
        final int[] errs;
        final int[] lampColumns;
        final int[] lampRows;
        final int[] flightSeats;
        final int[] flightRows;
        final int[] flightColumns;
        private final int[] tally;
        int columns;
        int rows;
        int nose;
        int speakers;
        int members;
        int lamps;
        int flights;

        Hall() {
            now = new int[CELLS];
            sharp = new int[MAX_MEMBERS];
            errs = new int[MAX_MEMBERS];
            lampColumns = new int[MAX_LAMPS];
            lampRows = new int[MAX_LAMPS];
            flightSeats = new int[MAX_FLIGHTS];
            flightRows = new int[MAX_FLIGHTS];
            flightColumns = new int[MAX_FLIGHTS];
            tally = new int[MAX_SPEAKERS];
            columns = 0;
            rows = 0;
            nose = 0;
            speakers = 0;
            members = 0;
            lamps = 0;
            flights = 0;
        }

        void clear() {
            columns = 0;
            rows = 0;
            nose = 0;
            speakers = 0;
            members = 0;
            lamps = 0;
            flights = 0;
            for (int i = 0; i < CELLS; i++) {
                now[i] = 0;
            }
            for (int row = 0; row <= MAX_ROWS; row++) {
                now[AIR + row] = STILL;
            }
        }

        /** A HALL has a speaker; before the first one there is none. */
        boolean stands() {
            return speakers > 0;
        }

        boolean hasSpeaker(int s) {
            return s >= 0 && s < speakers;
        }

        boolean hasMember(int m) {
            return m >= 0 && m < members;
        }

        boolean hasColumn(int column) {
            return column >= 0 && column < columns;
        }

        boolean hasRow(int row) {
            return row >= 1 && row <= rows;
        }

        boolean hasPlace(int column, int row) {
            return hasColumn(column) && hasRow(row);
        }

        boolean isLamp(int column, int row) {
            for (int i = 0; i < lamps; i++) {
                if (lampColumns[i] == column && lampRows[i] == row) {
                    return true;
                }
            }
            return false;
        }

        boolean isSpeaker(int column, int row) {
            for (int s = 0; s < speakers; s++) {
                if (now[COLUMN + s] == column && now[ROW + s] == row) {
                    return true;
                }
            }
            return false;
        }

        int unknownRows() {
            int sum = 0;
            for (int row = 1; row <= rows; row++) {
                if (now[AIR + row] == UNKNOWN) {
                    sum++;
                }
            }
            return sum;
        }

        int driftIn(int row) {
            int cell = now[AIR + row];
            return cell == UNKNOWN ? 0 : cell - STILL;
        }

        int withinWalls(int column) {
            return Math.max(0, Math.min(columns - 1, column));
        }

        int columnBy(int fold, int seat, int far) {
            if (fold == FLAT) {
                return seat;
            }
            int column = seat;
            for (int row = 1; row <= far; row++) {
                int drift = driftIn(row);
                column = withinWalls(column + (fold == STABLE ? drift / 2 : drift));
            }
            return fold == LOOP ? columns - 1 - column : column;
        }

        static int rowBy(int fold, int far) {
            return fold == FLAT ? Math.max(1, far / 2) : far;
        }

        int dartColumn(int m) {
            return columnBy(now[FOLD + m], now[SEAT + m], now[FAR + m]);
        }

        int dartRow(int m) {
            return rowBy(now[FOLD + m], now[FAR + m]);
        }

        int nearestTo(int column, int row) {
            return nearestBy(now, speakers, column, row);
        }

        /** The nearest speaker where they stand as some cells tell, not always those of NOW. */
        static int nearestBy(int[] cells, int speakers, int column, int row) {
            int best = 0;
            int least = Integer.MAX_VALUE;
            for (int s = 0; s < speakers; s++) {
                int apart = Math.abs(cells[COLUMN + s] - column) + Math.abs(cells[ROW + s] - row);
                if (apart < least) {
                    least = apart;
                    best = s;
                }
            }
            return best;
        }

        boolean countsAt(int m, int column, int row) {
            return sharp[m] <= nose && !isLamp(column, row);
        }

        int ballotAt(int m, int column, int row) {
            return countsAt(m, column, row) ? nearestTo(column, row) : NOBODY;
        }

        int ballotOf(int m) {
            return ballotAt(m, dartColumn(m), dartRow(m));
        }

        int ballotsFor(int s) {
            int sum = 0;
            for (int m = 0; m < members; m++) {
                if (ballotOf(m) == s) {
                    sum++;
                }
            }
            return sum;
        }

        int leader() {
            for (int s = 0; s < speakers; s++) {
                tally[s] = 0;
            }
            for (int m = 0; m < members; m++) {
                int s = ballotOf(m);
                if (s >= 0) {
                    tally[s]++;
                }
            }
            return firstOfMost(tally, speakers);
        }

        static int firstOfMost(int[] counts, int speakers) {
            int best = NOBODY;
            int most = 0;
            for (int s = 0; s < speakers; s++) {
                if (counts[s] > most) {
                    most = counts[s];
                    best = s;
                }
            }
            return best;
        }

        /** Of two hundred parts, those of an error: -1 to the left, 0 none, 1 to the right. */
        int partsOf(int m, int error) {
            return error == 0 ? PARTS - 2 * errs[m] : errs[m];
        }

        int chanceBy(int fold, int seat, int far, int m, int s) {
            int column = columnBy(fold, seat, far);
            int row = rowBy(fold, far);
            int parts = 0;
            for (int error = -1; error <= 1; error++) {
                if (ballotAt(m, withinWalls(column + error), row) == s) {
                    parts += partsOf(m, error);
                }
            }
            return parts;
        }

        int chanceNow(int m, int s) {
            return chanceBy(now[FOLD + m], now[SEAT + m], now[FAR + m], m, s);
        }
    }

    /** THE TAPE, and the TOKENS of its first bytes, one at a time. */
    private static final class Tape {
        static final int ROOM = 900;
        static final int FED = 20;

        static final int END = 0;
        static final int WORD = 1;
        static final int WHOLE = 2;
        static final int PART = 3;
        static final int NO_TOKEN = 4;

        private static final int LETTER_BITS = 5;
        private static final int LONGEST_WORD = 8;
        private static final int LONGEST_WHOLE = 3;

        private final byte[] bytes;
        int length;
        private int end;
        private int next;
        int kind;
        int at;
        int whole;
        // Eight letters of five bits each: two WORDS are one if these are.
        long letters;

        Tape() {
            bytes = new byte[ROOM];
            length = 0;
            end = 0;
            next = 0;
            kind = END;
            at = 0;
            whole = 0;
            letters = 0;
        }

        boolean hasRoom() {
            return length + FED <= ROOM;
        }

        void append(int four) {
            for (int shift = 24; shift >= 0 && length < ROOM; shift -= 8) {
                bytes[length] = (byte) (four >> shift);
                length++;
            }
        }

        void rewind(int n) {
            end = Math.max(0, Math.min(n, length));
            next = 0;
            advance();
        }

        void advance() {
            while (next < end && bytes[next] == ' ') {
                next++;
            }
            at = next;
            if (next >= end) {
                kind = END;
            } else if (bytes[next] >= 'a' && bytes[next] <= 'z') {
                takeWord();
            } else if (bytes[next] >= '0' && bytes[next] <= '9') {
                takeWhole();
            } else {
                kind = bytes[next] == ';' ? PART : NO_TOKEN;
                next++;
            }
        }

        private void takeWord() {
            letters = 0;
            while (next < end && bytes[next] >= 'a' && bytes[next] <= 'z') {
                letters = (letters << LETTER_BITS) | (bytes[next] - 'a' + 1);
                next++;
            }
            kind = next - at > LONGEST_WORD ? NO_TOKEN : WORD;
        }

        private void takeWhole() {
            whole = 0;
            while (next < end && bytes[next] >= '0' && bytes[next] <= '9') {
                whole = whole * 10 + (bytes[next] - '0');
                next++;
            }
            kind = next - at > LONGEST_WHOLE ? NO_TOKEN : WHOLE;
        }

        boolean isWord(String word) {
            long sum = 0;
            for (int i = 0; i < word.length(); i++) {
                sum = (sum << LETTER_BITS) | (word.charAt(i) - 'a' + 1);
            }
            return kind == WORD && letters == sum;
        }
    }

    /** Reads the text of a HALL from the left and stops at the first FAULT. */
    private static final class Reader {
        private static final int FORM = 1;
        private static final int TOLD_AGAIN = 3;
        private static final int OUT_OF_BOUNDS = 4;
        private static final int MANY = 5;
        private static final int LACKS = 6;

        private static final int NO_LINE = 0;
        private static final int HALL_LINE = 1;
        private static final int AIR_LINE = 2;
        private static final int FOG_LINE = 3;
        private static final int SPEAKER_LINE = 4;
        private static final int MEMBER_LINE = 5;
        private static final int LAMP_LINE = 6;
        private static final int FLIGHT_LINE = 7;

        final Tape tape;
        private final long[] names;
        private final boolean[] airTold;
        private int named;
        private int fogs;
        private int value;
        private int valueAt;
        private int column;
        int found;
        int foundAt;

        Reader() {
            tape = new Tape();
            names = new long[MAX_SPEAKERS + MAX_MEMBERS];
            airTold = new boolean[MAX_ROWS + 1];
            named = 0;
            fogs = 0;
            value = 0;
            valueAt = 0;
            column = 0;
            found = 0;
            foundAt = NONE;
        }

        void read(int n, Hall into) {
            into.clear();
            named = 0;
            fogs = 0;
            found = 0;
            foundAt = NONE;
            for (int row = 0; row <= MAX_ROWS; row++) {
                airTold[row] = false;
            }
            tape.rewind(n);
            boolean more = takeLine(into);
            // A LINE has two bytes at least, so there are fewer of them than bytes.
            for (int line = 0; line < Tape.ROOM && more; line++) {
                if (tape.kind == Tape.END) {
                    more = false;
                } else {
                    more = takePart() && takeLine(into);
                }
            }
            if (found == 0 && into.speakers == 0) {
                fail(LACKS, tape.at);
            }
        }

        private boolean fail(int fault, int place) {
            found = fault;
            foundAt = place;
            return false;
        }

        private boolean takeLine(Hall into) {
            int sort = lineSort();
            if (!mayBegin(into, sort)) {
                return false;
            }
            tape.advance();
            switch (sort) {
                case HALL_LINE:
                    return takeHall(into);
                case AIR_LINE:
                    return takeAir(into);
                case FOG_LINE:
                    return takeFog(into);
                case SPEAKER_LINE:
                    return takeSpeaker(into);
                case MEMBER_LINE:
                    return takeMember(into);
                case LAMP_LINE:
                    return takeLamp(into);
                default:
                    return takeFlight(into);
            }
        }

        private int lineSort() {
            if (tape.isWord("hall")) {
                return HALL_LINE;
            } else if (tape.isWord("air")) {
                return AIR_LINE;
            } else if (tape.isWord("fog")) {
                return FOG_LINE;
            } else if (tape.isWord("speaker")) {
                return SPEAKER_LINE;
            } else if (tape.isWord("member")) {
                return MEMBER_LINE;
            } else if (tape.isWord("lamp")) {
                return LAMP_LINE;
            }
            return tape.isWord("flight") ? FLIGHT_LINE : NO_LINE;
        }

        private boolean mayBegin(Hall into, int sort) {
            boolean told = into.columns > 0;
            if (sort == NO_LINE) {
                return fail(FORM, tape.at);
            }
            if (sort == HALL_LINE) {
                return !told || fail(TOLD_AGAIN, tape.at);
            }
            if (!told) {
                return fail(LACKS, tape.at);
            }
            return hasRoomFor(into, sort) || fail(MANY, tape.at);
        }

        private boolean hasRoomFor(Hall into, int sort) {
            switch (sort) {
                case FOG_LINE:
                    return fogs < MAX_UNKNOWN;
                case SPEAKER_LINE:
                    return into.speakers < MAX_SPEAKERS;
                case MEMBER_LINE:
                    return into.members < MAX_MEMBERS;
                case LAMP_LINE:
                    return into.lamps < MAX_LAMPS;
                case FLIGHT_LINE:
                    return into.flights < MAX_FLIGHTS;
                default:
                    return true;
            }
        }

        private boolean takeHall(Hall into) {
            if (!takeWord("long") || !takeWhole(3, MAX_COLUMNS)) {
                return false;
            }
            into.columns = value;
            if (!takeWord("rows") || !takeWhole(1, MAX_ROWS)) {
                return false;
            }
            into.rows = value;
            if (!takeWord("nose") || !takeWhole(0, 9)) {
                return false;
            }
            into.nose = value;
            return true;
        }

        private boolean takeAir(Hall into) {
            if (!takeNewAir(into)) {
                return false;
            }
            int row = value;
            boolean left = tape.isWord("left");
            if (!left && !tape.isWord("right")) {
                return fail(FORM, tape.at);
            }
            tape.advance();
            if (!takeWhole(0, 3)) {
                return false;
            }
            into.now[Hall.AIR + row] = left ? Hall.STILL - value : Hall.STILL + value;
            return true;
        }

        private boolean takeFog(Hall into) {
            if (!takeNewAir(into)) {
                return false;
            }
            into.now[Hall.AIR + value] = Hall.UNKNOWN;
            fogs++;
            return true;
        }

        private boolean takeNewAir(Hall into) {
            if (!takeWhole(1, into.rows)) {
                return false;
            }
            if (airTold[value]) {
                return fail(TOLD_AGAIN, valueAt);
            }
            airTold[value] = true;
            return true;
        }

        private boolean takeSpeaker(Hall into) {
            if (!takeName() || !takeWord("at") || !takePlace(into)) {
                return false;
            }
            into.now[Hall.COLUMN + into.speakers] = column;
            into.now[Hall.ROW + into.speakers] = value;
            into.speakers++;
            return true;
        }

        private boolean takeMember(Hall into) {
            int m = into.members;
            if (!takeName() || !takeFold()) {
                return false;
            }
            into.now[Hall.FOLD + m] = value;
            if (!takeWord("seat") || !takeWhole(0, into.columns - 1)) {
                return false;
            }
            into.now[Hall.SEAT + m] = value;
            if (!takeWord("far") || !takeWhole(1, into.rows)) {
                return false;
            }
            into.now[Hall.FAR + m] = value;
            if (!takeWord("sharp") || !takeWhole(0, 9)) {
                return false;
            }
            into.sharp[m] = value;
            if (!takeWord("errs") || !takeWhole(0, 100)) {
                return false;
            }
            into.errs[m] = value;
            into.members++;
            return true;
        }

        private boolean takeLamp(Hall into) {
            if (!takePlace(into)) {
                return false;
            }
            into.lampColumns[into.lamps] = column;
            into.lampRows[into.lamps] = value;
            into.lamps++;
            return true;
        }

        private boolean takeFlight(Hall into) {
            int f = into.flights;
            if (!takeWhole(0, into.columns - 1)) {
                return false;
            }
            into.flightSeats[f] = value;
            if (!takeWord("far") || !takeWhole(1, into.rows)) {
                return false;
            }
            into.flightRows[f] = value;
            if (!takeWord("lands") || !takeWhole(0, into.columns - 1)) {
                return false;
            }
            into.flightColumns[f] = value;
            into.flights++;
            return true;
        }

        private boolean takePart() {
            if (tape.kind != Tape.PART) {
                return fail(FORM, tape.at);
            }
            tape.advance();
            return true;
        }

        private boolean takeWord(String word) {
            if (!tape.isWord(word)) {
                return fail(FORM, tape.at);
            }
            tape.advance();
            return true;
        }

        private boolean takeWhole(int low, int high) {
            if (tape.kind != Tape.WHOLE) {
                return fail(FORM, tape.at);
            }
            value = tape.whole;
            valueAt = tape.at;
            if (value < low || value > high) {
                return fail(OUT_OF_BOUNDS, valueAt);
            }
            tape.advance();
            return true;
        }

        /** A column and a row where no speaker and no lamp is yet. */
        private boolean takePlace(Hall into) {
            if (!takeWhole(0, into.columns - 1)) {
                return false;
            }
            column = value;
            if (!takeWhole(1, into.rows)) {
                return false;
            }
            if (into.isSpeaker(column, value) || into.isLamp(column, value)) {
                return fail(TOLD_AGAIN, valueAt);
            }
            return true;
        }

        private boolean takeName() {
            if (tape.kind != Tape.WORD || lineSort() != NO_LINE) {
                return fail(FORM, tape.at);
            }
            for (int i = 0; i < named; i++) {
                if (names[i] == tape.letters) {
                    return fail(TOLD_AGAIN, tape.at);
                }
            }
            if (named < names.length) {
                names[named] = tape.letters;
                named++;
            }
            tape.advance();
            return true;
        }

        private boolean takeFold() {
            if (tape.isWord("plain")) {
                value = PLAIN;
            } else if (tape.isWord("stable")) {
                value = STABLE;
            } else if (tape.isWord("loop")) {
                value = LOOP;
            } else if (tape.isWord("flat")) {
                value = FLAT;
            } else {
                return fail(FORM, tape.at);
            }
            tape.advance();
            return true;
        }
    }

    /** What NOW was ahead of the latest ACTS, and the IMAGES. */
    private static final class Past {
        private static final int MAX_KEPT = 16;
        private static final int MAX_IMAGES = 3;

        private final int[] ring;
        private final int[] album;
        private int next;
        int kept;
        int images;

        Past() {
            ring = new int[MAX_KEPT * Hall.CELLS];
            album = new int[MAX_IMAGES * Hall.CELLS];
            next = 0;
            kept = 0;
            images = 0;
        }

        void forgetAll() {
            kept = 0;
            images = 0;
        }

        void keep(int[] now) {
            System.arraycopy(now, 0, ring, next * Hall.CELLS, Hall.CELLS);
            next = (next + 1) % MAX_KEPT;
            kept = Math.min(kept + 1, MAX_KEPT);
        }

        void takeBack(int[] now) {
            next = (next + MAX_KEPT - 1) % MAX_KEPT;
            kept--;
            System.arraycopy(ring, next * Hall.CELLS, now, 0, Hall.CELLS);
        }

        boolean hasImageRoom() {
            return images < MAX_IMAGES;
        }

        int takeImage(int[] now) {
            System.arraycopy(now, 0, album, images * Hall.CELLS, Hall.CELLS);
            images++;
            return images - 1;
        }

        void goBack(int image, int[] now) {
            System.arraycopy(album, image * Hall.CELLS, now, 0, Hall.CELLS);
            kept = 0;
        }
    }

    /** FOR whom each dart is, by each of its errors. */
    private static final class Ballots {
        private final int[] cast;

        Ballots() {
            cast = new int[3 * MAX_MEMBERS];
        }

        void castAll(Hall hall) {
            for (int m = 0; m < hall.members; m++) {
                int column = hall.dartColumn(m);
                int row = hall.dartRow(m);
                for (int error = -1; error <= 1; error++) {
                    int there = hall.withinWalls(column + error);
                    cast[3 * m + error + 1] = hall.ballotAt(m, there, row);
                }
            }
        }

        int castBy(int m, int error) {
            return cast[3 * m + error + 1];
        }
    }

    /** ODDS and FOLDS, in parts of which two hundred are one. */
    private static final class Odds {
        private final Ballots ballots;
        private final int[] counts;
        final long[] winning;
        final long[] spread;
        int bestFold;
        int bestRow;
        int bestChance;

        Odds() {
            ballots = new Ballots();
            counts = new int[MAX_SPEAKERS];
            winning = new long[MAX_SPEAKERS];
            spread = new long[MAX_MEMBERS + 1];
            bestFold = 0;
            bestRow = 0;
            bestChance = 0;
        }

        static long allParts(int members) {
            long all = 1;
            for (int m = 0; m < members; m++) {
                all *= PARTS;
            }
            return all;
        }

        static long inLowestTerms(long upper, long lower, boolean wantLower) {
            long divisor = commonDivisor(upper, lower);
            long wanted = wantLower ? lower : upper;
            return divisor == 0 ? wanted : wanted / divisor;
        }

        private static long commonDivisor(long one, long two) {
            long a = one;
            long b = two;
            // Two longs have theirs within 92 steps.
            for (int step = 0; step < 100 && b != 0; step++) {
                long rest = a % b;
                a = b;
                b = rest;
            }
            return a;
        }

        void weighWins(Hall hall) {
            for (int s = 0; s < MAX_SPEAKERS; s++) {
                winning[s] = 0;
                counts[s] = 0;
            }
            ballots.castAll(hall);
            throwFrom(hall, 0, 1);
        }

        /** All errors of this member and those behind it; as deep as there are members. */
        private void throwFrom(Hall hall, int m, long parts) {
            if (m >= hall.members || m >= MAX_MEMBERS) {
                int first = Hall.firstOfMost(counts, hall.speakers);
                if (first >= 0) {
                    winning[first] += parts;
                }
                return;
            }
            for (int error = -1; error <= 1; error++) {
                int some = hall.partsOf(m, error);
                if (some > 0) {
                    int s = ballots.castBy(m, error);
                    if (s >= 0) {
                        counts[s]++;
                    }
                    throwFrom(hall, m + 1, parts * some);
                    if (s >= 0) {
                        counts[s]--;
                    }
                }
            }
        }

        void weighCounts(Hall hall, int s) {
            for (int many = 1; many <= MAX_MEMBERS; many++) {
                spread[many] = 0;
            }
            spread[0] = 1;
            for (int m = 0; m < hall.members; m++) {
                long chance = hall.chanceNow(m, s);
                for (int many = MAX_MEMBERS; many >= 1; many--) {
                    spread[many] = spread[many] * (PARTS - chance) + spread[many - 1] * chance;
                }
                spread[0] *= PARTS - chance;
            }
        }

        int likeliest(int speakers) {
            int best = NOBODY;
            long most = 0;
            for (int s = 0; s < speakers; s++) {
                if (winning[s] > most) {
                    most = winning[s];
                    best = s;
                }
            }
            return best;
        }

        void seekFold(Hall hall, int m, int s) {
            bestChance = NONE;
            for (int fold = PLAIN; fold <= FLAT; fold++) {
                for (int row = 1; row <= hall.rows; row++) {
                    int chance = hall.chanceBy(fold, hall.now[Hall.SEAT + m], row, m, s);
                    if (chance > bestChance) {
                        bestChance = chance;
                        bestFold = fold;
                        bestRow = row;
                    }
                }
            }
        }

        int seekSeat(Hall hall, int m, int s) {
            int best = 0;
            int most = NONE;
            int fold = hall.now[Hall.FOLD + m];
            int far = hall.now[Hall.FAR + m];
            for (int seat = 0; seat < hall.columns; seat++) {
                int chance = hall.chanceBy(fold, seat, far, m, s);
                if (chance > most) {
                    most = chance;
                    best = seat;
                }
            }
            return best;
        }
    }

    /** Where darts come down without errors, and how speakers who stand elsewhere would do. */
    private static final class Places {
        final int[] cells;
        private final int[] dartColumns;
        private final int[] dartRows;
        private final int[] ones;
        private final int[] others;
        private int gathered;
        private int speakers;
        int bestColumn;
        int bestRow;
        int bestVotes;
        int restsFound;
        int firstRest;

        Places() {
            cells = new int[Hall.CELLS];
            dartColumns = new int[MAX_MEMBERS];
            dartRows = new int[MAX_MEMBERS];
            ones = new int[MAX_COLUMNS * MAX_COLUMNS];
            others = new int[MAX_COLUMNS * MAX_COLUMNS];
            gathered = 0;
            speakers = 0;
            bestColumn = 0;
            bestRow = 0;
            bestVotes = 0;
            restsFound = 0;
            firstRest = NOBODY;
        }

        /** Takes a copy of NOW in which speakers may be moved, and the darts that COUNT. */
        void gather(Hall hall) {
            System.arraycopy(hall.now, 0, cells, 0, Hall.CELLS);
            speakers = hall.speakers;
            gathered = 0;
            for (int m = 0; m < hall.members; m++) {
                int column = hall.dartColumn(m);
                int row = hall.dartRow(m);
                if (hall.countsAt(m, column, row)) {
                    addDart(column, row);
                }
            }
        }

        private void addDart(int column, int row) {
            dartColumns[gathered] = column;
            dartRows[gathered] = row;
            gathered++;
        }

        int ballotsFor(int s) {
            int sum = 0;
            for (int i = 0; i < gathered; i++) {
                if (Hall.nearestBy(cells, speakers, dartColumns[i], dartRows[i]) == s) {
                    sum++;
                }
            }
            return sum;
        }

        int thickestPlace(Hall hall) {
            gathered = 0;
            for (int m = 0; m < hall.members; m++) {
                addDart(hall.dartColumn(m), hall.dartRow(m));
            }
            int best = NOBODY;
            int most = 0;
            for (int row = 1; row <= hall.rows; row++) {
                for (int column = 0; column < hall.columns; column++) {
                    int here = dartsAt(column, row);
                    if (here > most) {
                        most = here;
                        best = 10 * column + row;
                    }
                }
            }
            return best;
        }

        private int dartsAt(int column, int row) {
            int sum = 0;
            for (int i = 0; i < gathered; i++) {
                if (dartColumns[i] == column && dartRows[i] == row) {
                    sum++;
                }
            }
            return sum;
        }

        void seekPlace(Hall hall, int s) {
            gather(hall);
            bestVotes = NONE;
            for (int row = 1; row <= hall.rows; row++) {
                for (int column = 0; column < hall.columns; column++) {
                    if (mayStand(hall, s, column, row)) {
                        tryPlace(s, column, row);
                    }
                }
            }
        }

        private static boolean mayStand(Hall hall, int s, int column, int row) {
            boolean own = hall.now[Hall.COLUMN + s] == column && hall.now[Hall.ROW + s] == row;
            return own || (!hall.isLamp(column, row) && !hall.isSpeaker(column, row));
        }

        private void tryPlace(int s, int column, int row) {
            cells[Hall.COLUMN + s] = column;
            cells[Hall.ROW + s] = row;
            int here = ballotsFor(s);
            if (here > bestVotes) {
                bestVotes = here;
                bestColumn = column;
                bestRow = row;
            }
        }

        void seekRests(Hall hall, int s, int other) {
            gather(hall);
            playAll(hall.columns, s, other);
            restsFound = 0;
            firstRest = NOBODY;
            for (int one = 0; one < hall.columns; one++) {
                for (int two = 0; two < hall.columns; two++) {
                    if (isRest(hall.columns, one, two)) {
                        if (restsFound == 0) {
                            firstRest = 100 * one + two;
                        }
                        restsFound++;
                    }
                }
            }
        }

        private void playAll(int columns, int s, int other) {
            for (int one = 0; one < columns; one++) {
                cells[Hall.COLUMN + s] = one;
                for (int two = 0; two < columns; two++) {
                    cells[Hall.COLUMN + other] = two;
                    ones[one * MAX_COLUMNS + two] = ballotsFor(s);
                    others[one * MAX_COLUMNS + two] = ballotsFor(other);
                }
            }
        }

        private boolean isRest(int columns, int one, int two) {
            int has = ones[one * MAX_COLUMNS + two];
            int otherHas = others[one * MAX_COLUMNS + two];
            for (int column = 0; column < columns; column++) {
                if (ones[column * MAX_COLUMNS + two] > has
                        || others[one * MAX_COLUMNS + column] > otherHas) {
                    return false;
                }
            }
            return true;
        }
    }

    /** AIRS by flights, and the THROW that tells most of them. */
    private static final class Fog {
        private static final int STRONGEST = 2;
        private static final int DRIFTS = 5;
        private static final int MAX_AIRS = 125;

        private final int[] drifts;
        private final int[] digitOf;
        private final int[] fitting;
        private final int[] flying;
        private final int[] tally;
        final int[] seen;
        private int unknown;
        int left;
        int throwSeat;
        int throwRow;
        int throwLeft;

        Fog() {
            drifts = new int[MAX_ROWS + 1];
            digitOf = new int[MAX_ROWS + 1];
            fitting = new int[MAX_AIRS];
            flying = new int[MAX_AIRS];
            tally = new int[MAX_COLUMNS];
            seen = new int[MAX_ROWS + 1];
            unknown = 0;
            left = 0;
            throwSeat = 0;
            throwRow = 0;
            throwLeft = 0;
        }

        void seekAirs(Hall hall) {
            int all = survey(hall);
            left = 0;
            for (int airs = 0; airs < all; airs++) {
                lay(hall, airs);
                if (fitsFlights(hall)) {
                    fitting[left] = airs;
                    left++;
                    note(hall);
                }
            }
        }

        /** Gives each unknown row a digit of base five, and tells how many AIRS to try. */
        private int survey(Hall hall) {
            int all = 1;
            unknown = 0;
            for (int row = 1; row <= hall.rows; row++) {
                seen[row] = 0;
                drifts[row] = hall.driftIn(row);
                digitOf[row] = 0;
                if (hall.now[Hall.AIR + row] == Hall.UNKNOWN && unknown < MAX_UNKNOWN) {
                    digitOf[row] = all;
                    all *= DRIFTS;
                    unknown++;
                }
            }
            return all;
        }

        private void lay(Hall hall, int airs) {
            for (int row = 1; row <= hall.rows; row++) {
                drifts[row] = driftBy(airs, row);
            }
        }

        private int driftBy(int airs, int row) {
            int digit = digitOf[row];
            return digit == 0 ? drifts[row] : airs / digit % DRIFTS - STRONGEST;
        }

        private boolean fitsFlights(Hall hall) {
            for (int f = 0; f < hall.flights; f++) {
                int column = hall.flightSeats[f];
                for (int row = 1; row <= hall.flightRows[f]; row++) {
                    column = hall.withinWalls(column + drifts[row]);
                }
                if (column != hall.flightColumns[f]) {
                    return false;
                }
            }
            return true;
        }

        private void note(Hall hall) {
            for (int row = 1; row <= hall.rows; row++) {
                if (digitOf[row] != 0) {
                    seen[row] |= 1 << (drifts[row] + STRONGEST);
                }
            }
        }

        /** The one drift of a row in all AIRS, and 2. */
        int onlyDrift(int row) {
            for (int drift = 0; drift < DRIFTS; drift++) {
                if (seen[row] == 1 << drift) {
                    return drift;
                }
            }
            return NOBODY;
        }

        void seekThrow(Hall hall) {
            seekAirs(hall);
            throwLeft = MAX_AIRS + 1;
            for (int seat = 0; seat < hall.columns; seat++) {
                for (int i = 0; i < left; i++) {
                    flying[i] = seat;
                }
                for (int row = 1; row <= hall.rows; row++) {
                    int most = flyThrough(hall, row);
                    if (most < throwLeft) {
                        throwLeft = most;
                        throwSeat = seat;
                        throwRow = row;
                    }
                }
            }
        }

        /** One row further by all AIRS: how many of them bring the dart to one column at most. */
        private int flyThrough(Hall hall, int row) {
            for (int column = 0; column < hall.columns; column++) {
                tally[column] = 0;
            }
            int most = 0;
            for (int i = 0; i < left; i++) {
                int column = hall.withinWalls(flying[i] + driftBy(fitting[i], row));
                flying[i] = column;
                tally[column]++;
                most = Math.max(most, tally[column]);
            }
            return most;
        }
    }

    /** POWER of members, and the RAKE's way. */
    private static final class Sway {
        private final int[] cast;
        private final int[] counts;
        private final int[] dartColumns;
        private final int[] dartRows;

        Sway() {
            cast = new int[MAX_MEMBERS];
            counts = new int[MAX_SPEAKERS];
            dartColumns = new int[MAX_MEMBERS];
            dartRows = new int[MAX_MEMBERS];
        }

        int powerOf(Hall hall, int m) {
            castAll(hall);
            return turns(hall, m);
        }

        int mightiest(Hall hall) {
            castAll(hall);
            int best = NOBODY;
            int most = 0;
            for (int m = 0; m < hall.members; m++) {
                int power = turns(hall, m);
                if (power > most) {
                    most = power;
                    best = m;
                }
            }
            return best;
        }

        private void castAll(Hall hall) {
            for (int m = 0; m < hall.members; m++) {
                cast[m] = hall.ballotOf(m);
            }
        }

        private int turns(Hall hall, int m) {
            if (cast[m] < 0) {
                return 0;
            }
            int sum = 0;
            for (int set = 0; set < 1 << hall.members; set++) {
                if ((set >> m & 1) == 0) {
                    countSet(hall, set);
                    int without = Hall.firstOfMost(counts, hall.speakers);
                    counts[cast[m]]++;
                    if (Hall.firstOfMost(counts, hall.speakers) != without) {
                        sum++;
                    }
                }
            }
            return sum;
        }

        private void countSet(Hall hall, int set) {
            for (int s = 0; s < hall.speakers; s++) {
                counts[s] = 0;
            }
            for (int m = 0; m < hall.members; m++) {
                if ((set >> m & 1) == 1 && cast[m] >= 0) {
                    counts[cast[m]]++;
                }
            }
        }

        int rakeSteps(Hall hall) {
            for (int m = 0; m < hall.members; m++) {
                dartColumns[m] = hall.dartColumn(m);
                dartRows[m] = hall.dartRow(m);
            }
            return stepsFrom(0, 0, (1 << hall.members) - 1);
        }

        /** The fewest steps from here by all darts of a set and home; a set loses one a level. */
        private int stepsFrom(int column, int row, int set) {
            if (set == 0) {
                return column + row;
            }
            int fewest = Integer.MAX_VALUE;
            for (int m = 0; m < MAX_MEMBERS; m++) {
                if ((set >> m & 1) == 1) {
                    int there = Math.abs(column - dartColumns[m]) + Math.abs(row - dartRows[m]);
                    int rest = stepsFrom(dartColumns[m], dartRows[m], set & ~(1 << m));
                    fewest = Math.min(fewest, there + rest);
                }
            }
            return fewest;
        }
    }

    /** SESSIONS by a SEED. */
    private static final class Draws {
        private final Ballots ballots;
        private final int[] counts;
        private final int[] thrown;
        final int[] won;
        final int[] withWinner;
        int counting;
        int latest;

        Draws() {
            ballots = new Ballots();
            counts = new int[MAX_SPEAKERS];
            thrown = new int[MAX_MEMBERS];
            won = new int[MAX_SPEAKERS];
            withWinner = new int[MAX_MEMBERS];
            counting = 0;
            latest = 0;
        }

        void holdMany(Hall hall, int seed, int n) {
            begin(hall, seed);
            for (int i = 0; i < n; i++) {
                holdOne(hall);
            }
        }

        void begin(Hall hall, int seed) {
            ballots.castAll(hall);
            latest = seed;
            counting = 0;
            for (int s = 0; s < MAX_SPEAKERS; s++) {
                won[s] = 0;
            }
            for (int m = 0; m < MAX_MEMBERS; m++) {
                withWinner[m] = 0;
            }
        }

        int holdOne(Hall hall) {
            for (int s = 0; s < MAX_SPEAKERS; s++) {
                counts[s] = 0;
            }
            for (int m = 0; m < hall.members; m++) {
                thrown[m] = ballots.castBy(m, errorOf(hall.errs[m]));
                if (thrown[m] >= 0) {
                    counts[thrown[m]]++;
                    counting++;
                }
            }
            int first = Hall.firstOfMost(counts, hall.speakers);
            if (first >= 0) {
                won[first]++;
                praise(hall.members, first);
            }
            return first;
        }

        private void praise(int members, int first) {
            for (int m = 0; m < members; m++) {
                if (thrown[m] == first) {
                    withWinner[m]++;
                }
            }
        }

        private int errorOf(int errs) {
            latest = (75 * latest + 74) % (MAX_SEED + 1);
            int number = latest % PARTS;
            if (number < errs) {
                return -1;
            }
            return number < 2 * errs ? 1 : 0;
        }
    }
}
