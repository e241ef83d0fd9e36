/** Sentences of promises 39 to 41, 47 and 48 (SESSIONS, SEED) that name a boundary case. */
public final class DrawSentencesTest {
    private static final String EMPTY = "hall long 3 rows 1 nose 0;speaker s at 0 1";
    // A dart from 2: with an error to the left it is for l, to the right for r, with none for o.
    private static final String SIDES = "hall long 5 rows 1 nose 0;speaker l at 1 1;speaker r at 3 1;"
            + "speaker o at 2 1;member m plain seat 2 far 1 sharp 0 errs ";
    private static final int LEFT = 0;
    private static final int RIGHT = 1;
    private static final int NO_ERROR = 2;
    private static final Check CHECK = new Check();

    public static void main(String[] args) throws Exception {
        Sentences.run(DrawSentencesTest.class, CHECK);
    }

    private static int next(int seed) {
        return (75 * seed + 74) % 65537;
    }

    /** A SEED whose next DRAW mod 200 is a number. */
    private static int seedFor(int number) {
        int seed = 0;
        while (next(seed) % 200 != number) {
            seed++;
        }
        return seed;
    }

    private static void dueError(int errs, int number, int speaker) {
        PaperVote x = Check.told(SIDES + errs);
        int seed = seedFor(number);
        for (int s = 0; s < 3; s++) {
            CHECK.due("sessions(" + s + ") by errs " + errs + ", DRAW " + number,
                    x.sessions(s, seed, 1), s == speaker ? 1 : 0);
        }
        x.seed(seed);
        CHECK.due("session() by errs " + errs + ", DRAW " + number, x.session(), speaker);
    }

    // ---- promise 39

    @Says("NONE: 1; 2. ## Promise 40")
    static void promise39_noSuchSpeaker() {
        PaperVote x = Check.told(SIDES + 50);
        String before = Check.stateOf(x);
        CHECK.dueRefused(x, "sessions(-1, 0, 1)", before, x.sessions(-1, 0, 1), 1);
        CHECK.dueRefused(x, "sessions(3, 0, 1)", before, x.sessions(3, 0, 1), 1);
        CHECK.dueRefused(x, "sessions(3, -1, 0), 1 ahead of 2", before, x.sessions(3, -1, 0), 1);
    }

    @Says("NONE: 1; 2. ## Promise 40")
    static void promise39_noHall() {
        PaperVote x = new PaperVote();
        CHECK.dueTrouble(x, "sessions(0, 0, 1)", x.sessions(0, 0, 1), -1, 1);
        CHECK.dueTrouble(x, "sessions(0, -1, 0)", x.sessions(0, -1, 0), -1, 1);
    }

    @Says("Sessions won by a speaker of n (1 .. 90) by a SEED (0 .. 65,536), SEED going on.")
    static void promise39_tooFewOrTooManySessions() {
        PaperVote x = Check.told(SIDES + 0);
        String before = Check.stateOf(x);
        CHECK.dueRefused(x, "sessions(2, 0, 0)", before, x.sessions(2, 0, 0), 2);
        CHECK.dueRefused(x, "sessions(2, 0, -1)", before, x.sessions(2, 0, -1), 2);
        CHECK.dueRefused(x, "sessions(2, 0, 91)", before, x.sessions(2, 0, 91), 2);
        CHECK.dueRefused(x, "sessions(2, 0, MAX)", before, x.sessions(2, 0, Integer.MAX_VALUE), 2);
        CHECK.dueTrouble(x, "sessions(2, 0, 1)", x.sessions(2, 0, 1), 1, 0);
        CHECK.dueTrouble(x, "sessions(2, 0, 90)", x.sessions(2, 0, 90), 90, 0);
    }

    @Says("Sessions won by a speaker of n (1 .. 90) by a SEED (0 .. 65,536), SEED going on.")
    static void promise39_aSeedTooSmallOrTooLarge() {
        PaperVote x = Check.told(SIDES + 0);
        String before = Check.stateOf(x);
        CHECK.dueRefused(x, "sessions(2, -1, 1)", before, x.sessions(2, -1, 1), 2);
        CHECK.dueRefused(x, "sessions(2, 65537, 1)", before, x.sessions(2, 65537, 1), 2);
        CHECK.dueRefused(x, "sessions(2, MIN, 1)", before, x.sessions(2, Integer.MIN_VALUE, 1), 2);
        CHECK.dueTrouble(x, "sessions(2, 0, 1)", x.sessions(2, 0, 1), 1, 0);
        CHECK.dueTrouble(x, "sessions(2, 65536, 1)", x.sessions(2, 65536, 1), 1, 0);
    }

    @Says("below errs it comes down one to the left")
    static void promise39_leftBelowErrs() {
        dueError(1, 0, LEFT);
        dueError(50, 0, LEFT);
        dueError(50, 49, LEFT);
        dueError(100, 99, LEFT);
        dueError(99, 98, LEFT);
    }

    @Says("below twice errs one to the right")
    static void promise39_rightBelowTwiceErrs() {
        dueError(1, 1, RIGHT);
        dueError(50, 50, RIGHT);
        dueError(50, 99, RIGHT);
        dueError(100, 100, RIGHT);
        dueError(100, 199, RIGHT);
        dueError(99, 197, RIGHT);
    }

    @Says("else where it would")
    static void promise39_noErrorFromTwiceErrs() {
        dueError(0, 0, NO_ERROR);
        dueError(0, 199, NO_ERROR);
        dueError(1, 2, NO_ERROR);
        dueError(50, 100, NO_ERROR);
        dueError(99, 198, NO_ERROR);
        dueError(99, 199, NO_ERROR);
    }

    @Says("(SEED becomes (75 times SEED and 74) mod 65,537)")
    static void promise39_seedWrapsAround() {
        PaperVote x = Check.told(SIDES + 50);
        // 75 by 873 and 74 are 65,549, 12 beyond 65,537; 872 is the last that stays below.
        int[] seeds = {0, 872, 873, 874, 65535, 65536};
        int[] due = {74, 65474, 12, 87, 65461, 65536};
        for (int i = 0; i < seeds.length; i++) {
            x.seed(seeds[i]);
            x.session();
            CHECK.due("SEED behind " + seeds[i], x.size(9), due[i]);
            int number = due[i] % 200;
            int speaker = number < 50 ? LEFT : number < 100 ? RIGHT : NO_ERROR;
            CHECK.due("sessions by " + seeds[i], x.sessions(speaker, seeds[i], 1), 1);
        }
    }

    @Says("SEED going on")
    static void promise39_seedGoesOnFromOneToTheNext() {
        PaperVote x = Check.told(SIDES + 50);
        int[] won = new int[3];
        int seed = 4711;
        for (int n = 1; n <= 90; n++) {
            seed = next(seed);
            int number = seed % 200;
            won[number < 50 ? LEFT : number < 100 ? RIGHT : NO_ERROR]++;
            for (int s = 0; s < 3; s++) {
                CHECK.due("sessions(" + s + ", 4711, " + n + ")", x.sessions(s, 4711, n), won[s]);
            }
        }
        CHECK.due("SEED of the HALL stays", x.size(9), 0);
        CHECK.due("sessions held", x.size(8), 0);
    }

    @Says("each member's DART by numbers: a DRAW mod 200")
    static void promise39_eachMemberDraws() {
        // The first is too sharp and has no errs, but draws; the second's is the second DRAW, 24: left.
        PaperVote x = Check.told("hall long 5 rows 1 nose 0;speaker l at 1 1;speaker r at 3 1;speaker o at 2 1;"
                + "member m plain seat 0 far 1 sharp 9 errs 0;member n plain seat 2 far 1 sharp 0 errs 50");
        CHECK.due("sessions(0, 0, 1)", x.sessions(0, 0, 1), 1);
        CHECK.due("session()", x.session(), 0);
        CHECK.due("SEED behind two DRAWS", x.size(9), 5624);
    }

    @Says("(not beyond the wall: at it)")
    static void promise39_errorsAtTheWalls() {
        String left = "hall long 3 rows 1 nose 0;speaker a at 0 1;speaker b at 1 1;"
                + "member m flat seat 0 far 1 sharp 0 errs 50";
        CHECK.due("to the left of 0", Check.told(left).sessions(0, seedFor(49), 1), 1);
        CHECK.due("to the right of 0", Check.told(left).sessions(1, seedFor(50), 1), 1);
        String right = "hall long 3 rows 1 nose 0;speaker a at 2 1;speaker b at 1 1;"
                + "member m flat seat 2 far 1 sharp 0 errs 50";
        CHECK.due("to the right of 2", Check.told(right).sessions(0, seedFor(50), 1), 1);
        CHECK.due("to the left of 2", Check.told(right).sessions(1, seedFor(49), 1), 1);
    }

    @Says("nobody if none COUNTS")
    static void promise39_nobodyWins() {
        PaperVote x = Check.told(EMPTY);
        CHECK.dueTrouble(x, "sessions(0, 0, 90) without members", x.sessions(0, 0, 90), 0, 0);
        PaperVote y = Check.told(EMPTY + ";lamp 1 1;member m flat seat 1 far 1 sharp 0 errs 0");
        CHECK.dueTrouble(y, "sessions(0, 0, 90), it hangs", y.sessions(0, 0, 90), 0, 0);
    }

    // ---- promise 40

    @Says("How many darts COUNT in all of them. NONE: 1 (no HALL); 2.")
    static void promise40_noHall() {
        PaperVote x = new PaperVote();
        CHECK.dueTrouble(x, "darts(0, 1)", x.darts(0, 1), -1, 1);
        CHECK.dueTrouble(x, "darts(-1, 0), 1 ahead of 2", x.darts(-1, 0), -1, 1);
    }

    @Says("How many darts COUNT in all of them. NONE: 1 (no HALL); 2.")
    static void promise40_aNumberTooSmallOrTooLarge() {
        PaperVote x = Check.told(SIDES + 0);
        String before = Check.stateOf(x);
        int[][] wrong = {{-1, 1}, {65537, 1}, {0, 0}, {0, 91}, {0, -1}, {Integer.MAX_VALUE, 1}};
        for (int[] w : wrong) {
            CHECK.dueRefused(x, "darts(" + w[0] + ", " + w[1] + ")", before, x.darts(w[0], w[1]), 2);
        }
        CHECK.dueTrouble(x, "darts(0, 1)", x.darts(0, 1), 1, 0);
        CHECK.dueTrouble(x, "darts(65536, 90)", x.darts(65536, 90), 90, 0);
    }

    @Says("How many darts COUNT in all of them. NONE: 1 (no HALL); 2.")
    static void promise40_noneAndAll() {
        PaperVote x = Check.told(EMPTY);
        CHECK.dueTrouble(x, "darts(0, 90) without members", x.darts(0, 90), 0, 0);
        String text = EMPTY;
        for (char m = 'a'; m < 'g'; m++) {
            text += ";member " + m + " flat seat 1 far 1 sharp 0 errs 100";
        }
        CHECK.due("darts(0, 90) of six", Check.told(text).darts(0, 90), 540);
        // With errs 50 a dart hangs in the lamp by DRAWS from 100 on: of 74, 24, 52, 190 but the last.
        PaperVote y = Check.told(EMPTY + ";lamp 1 1;member m flat seat 1 far 1 sharp 0 errs 50");
        CHECK.due("darts(0, 3)", y.darts(0, 3), 3);
        CHECK.due("darts(0, 4)", y.darts(0, 4), 3);
    }

    // ---- promise 41

    @Says("In how many of them a member's dart is FOR the WINNER and COUNTS. NONE: 1; 2.")
    static void promise41_noSuchMember() {
        PaperVote x = Check.told(SIDES + 50);
        String before = Check.stateOf(x);
        CHECK.dueRefused(x, "lucky(-1, 0, 1)", before, x.lucky(-1, 0, 1), 1);
        CHECK.dueRefused(x, "lucky(1, 0, 1)", before, x.lucky(1, 0, 1), 1);
        CHECK.dueRefused(x, "lucky(1, -1, 0), 1 ahead of 2", before, x.lucky(1, -1, 0), 1);
        PaperVote y = Check.told(EMPTY);
        CHECK.dueTrouble(y, "lucky(0, 0, 1) of none", y.lucky(0, 0, 1), -1, 1);
    }

    @Says("In how many of them a member's dart is FOR the WINNER and COUNTS. NONE: 1; 2.")
    static void promise41_noHall() {
        PaperVote x = new PaperVote();
        CHECK.dueTrouble(x, "lucky(0, 0, 1)", x.lucky(0, 0, 1), -1, 1);
        CHECK.dueTrouble(x, "lucky(0, -1, 0)", x.lucky(0, -1, 0), -1, 1);
    }

    @Says("In how many of them a member's dart is FOR the WINNER and COUNTS. NONE: 1; 2.")
    static void promise41_aNumberTooSmallOrTooLarge() {
        PaperVote x = Check.told(SIDES + 0);
        String before = Check.stateOf(x);
        int[][] wrong = {{-1, 1}, {65537, 1}, {0, 0}, {0, 91}};
        for (int[] w : wrong) {
            CHECK.dueRefused(x, "lucky(0, " + w[0] + ", " + w[1] + ")", before, x.lucky(0, w[0], w[1]), 2);
        }
        CHECK.dueTrouble(x, "lucky(0, 0, 1)", x.lucky(0, 0, 1), 1, 0);
        CHECK.dueTrouble(x, "lucky(0, 65536, 90)", x.lucky(0, 65536, 90), 90, 0);
    }

    @Says("In how many of them a member's dart is FOR the WINNER and COUNTS. NONE: 1; 2.")
    static void promise41_neverAndAlways() {
        PaperVote x = Check.told("hall long 5 rows 1 nose 0;speaker a at 0 1;speaker b at 4 1;"
                + "member m flat seat 4 far 1 sharp 0 errs 0;member n flat seat 0 far 1 sharp 0 errs 0;"
                + "member o flat seat 0 far 1 sharp 1 errs 0");
        CHECK.dueTrouble(x, "lucky(0, 0, 90), not of like ones the first", x.lucky(0, 0, 90), 0, 0);
        CHECK.dueTrouble(x, "lucky(1, 0, 90)", x.lucky(1, 0, 90), 90, 0);
        CHECK.dueTrouble(x, "lucky(2, 0, 90), too sharp", x.lucky(2, 0, 90), 0, 0);
        PaperVote y = Check.told(EMPTY + ";member m flat seat 0 far 1 sharp 1 errs 0");
        CHECK.dueTrouble(y, "lucky(0, 0, 90), nobody wins", y.lucky(0, 0, 90), 0, 0);
    }

    // ---- promise 47

    @Says("SESSION: WINNER; -2. NONE: 1 (no HALL).")
    static void promise47_noHall() {
        PaperVote x = new PaperVote();
        String before = Check.stateOf(x);
        CHECK.dueRefused(x, "session()", before, x.session(), 1);
    }

    @Says("SESSION: WINNER; -2. NONE: 1 (no HALL).")
    static void promise47_nobodyWins() {
        PaperVote x = Check.told(EMPTY);
        x.seed(9);
        CHECK.dueTrouble(x, "session()", x.session(), -2, 0);
        CHECK.due("sessions held", x.size(8), 1);
        CHECK.due("speaker(0, 2)", x.speaker(0, 2), 0);
        CHECK.due("SEED without a DRAW", x.size(9), 9);
        CHECK.due("ACTS that can be undone", x.size(10), 1);
    }

    @Says("SESSION: WINNER; -2. NONE: 1 (no HALL).")
    static void promise47_manyAreHeld() {
        PaperVote x = Check.told(SIDES + 50);
        int[] won = new int[3];
        int seed = 0;
        for (int n = 1; n <= 120; n++) {
            seed = next(seed);
            int speaker = seed % 200 < 50 ? LEFT : seed % 200 < 100 ? RIGHT : NO_ERROR;
            won[speaker]++;
            CHECK.due("session " + n, x.session(), speaker);
        }
        CHECK.due("sessions held", x.size(8), 120);
        CHECK.due("SEED", x.size(9), seed);
        for (int s = 0; s < 3; s++) {
            CHECK.due("speaker(" + s + ", 2)", x.speaker(s, 2), won[s]);
        }
    }

    @Says("WINNER: who has most that COUNT, of like ones the first")
    static void promise47_ofLikeOnesTheFirst() {
        PaperVote x = Check.told("hall long 5 rows 1 nose 0;speaker a at 0 1;speaker b at 4 1;"
                + "member m flat seat 4 far 1 sharp 0 errs 0;member n flat seat 0 far 1 sharp 0 errs 0");
        CHECK.due("session()", x.session(), 0);
        CHECK.due("speaker(0, 2)", x.speaker(0, 2), 1);
        CHECK.due("speaker(1, 2)", x.speaker(1, 2), 0);
    }

    // ---- promise 48

    @Says("SEED (no ACT): true; false: 1 (no HALL); 2 (0 .. 65,536).")
    static void promise48_noHall() {
        PaperVote x = new PaperVote();
        String before = Check.stateOf(x);
        CHECK.dueRefused(x, "seed(0)", before, x.seed(0), 1);
        CHECK.dueRefused(x, "seed(-1), 1 ahead of 2", before, x.seed(-1), 1);
    }

    @Says("SEED (no ACT): true; false: 1 (no HALL); 2 (0 .. 65,536).")
    static void promise48_tooSmallOrTooLarge() {
        PaperVote x = Check.told(EMPTY);
        x.seed(5);
        String before = Check.stateOf(x);
        for (int v : new int[] {-1, 65537, Integer.MIN_VALUE, Integer.MAX_VALUE}) {
            CHECK.dueRefused(x, "seed(" + v + ")", before, x.seed(v), 2);
        }
        CHECK.due("SEED stays", x.size(9), 5);
    }

    @Says("SEED (no ACT): true; false: 1 (no HALL); 2 (0 .. 65,536).")
    static void promise48_leastMostAndTheSame() {
        PaperVote x = Check.told(EMPTY);
        for (int v : new int[] {0, 65536, 65536, 0, 0}) {
            CHECK.dueTrouble(x, "seed(" + v + ")", x.seed(v), true, 0);
            CHECK.due("SEED", x.size(9), v);
        }
    }

    @Says("SEED (no ACT): true; false: 1 (no HALL); 2 (0 .. 65,536).")
    static void promise48_noAct() {
        PaperVote x = Check.told(EMPTY);
        x.seed(5);
        CHECK.due("ACTS that can be undone", x.size(10), 0);
        CHECK.dueTrouble(x, "undo()", x.undo(), false, 6);
        CHECK.due("SEED", x.size(9), 5);
    }
}
