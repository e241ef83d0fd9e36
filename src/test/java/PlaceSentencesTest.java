/** Sentences of promises 25 to 29 (PLACES, GAMES, RESTS) that name a boundary case. */
public final class PlaceSentencesTest {
    private static final String EMPTY = "hall long 3 rows 1 nose 0;speaker s at 0 1";
    private static final String THREE = "hall long 5 rows 2 nose 0;speaker a at 0 1;speaker b at 4 1;"
            + "speaker c at 2 2;member m flat seat 0 far 1 sharp 0 errs 0;"
            + "member n flat seat 4 far 1 sharp 0 errs 0";
    // One dart at the right wall: a, told first, has it if he stands as near.
    private static final String WALL = "hall long 12 rows 1 nose 0;speaker a at 0 1;speaker b at 1 1;"
            + "member m flat seat 11 far 1 sharp 0 errs 0";
    private static final Check CHECK = new Check();

    public static void main(String[] args) throws Exception {
        Sentences.run(PlaceSentencesTest.class, CHECK);
    }

    private static void duePlace(PaperVote x, int s, int place, int votes) {
        CHECK.dueTrouble(x, "place(" + s + ")", x.place(s), place, 0);
        CHECK.dueTrouble(x, "placeVotes(" + s + ")", x.placeVotes(s), votes, 0);
    }

    private static void dueGame(PaperVote x, int[] of, int has, int otherHas) {
        String call = "game(" + of[0] + ", " + of[1] + ", " + of[2] + ", " + of[3];
        CHECK.dueTrouble(x, call + ", false)", x.game(of[0], of[1], of[2], of[3], false), has, 0);
        CHECK.dueTrouble(x, call + ", true)", x.game(of[0], of[1], of[2], of[3], true), otherHas, 0);
    }

    private static void dueNoGame(PaperVote x, int s, int column, int other, int others) {
        String call = "game(" + s + ", " + column + ", " + other + ", " + others + ")";
        CHECK.dueTrouble(x, call, x.game(s, column, other, others, false), -1, 1);
        CHECK.dueTrouble(x, call + " of the other", x.game(s, column, other, others, true), -1, 1);
    }

    // ---- promises 25, 26

    @Says("PLACE: 10 times the column and the row. NONE: 1.")
    static void promise25_noSuchSpeaker() {
        PaperVote x = Check.told(THREE);
        String before = Check.stateOf(x);
        CHECK.dueRefused(x, "place(-1)", before, x.place(-1), 1);
        CHECK.dueRefused(x, "place(3)", before, x.place(3), 1);
        CHECK.dueRefused(x, "place(MAX)", before, x.place(Integer.MAX_VALUE), 1);
    }

    @Says("PLACE: 10 times the column and the row. NONE: 1.")
    static void promise25_noHall() {
        PaperVote x = new PaperVote();
        CHECK.dueTrouble(x, "place(0)", x.place(0), -1, 1);
    }

    @Says("of like ones the first by rows, columns. A GAME of two speakers")
    static void promise25_rowsAheadOfColumns() {
        // No darts, so all places are alike: the first that is free.
        duePlace(Check.told("hall long 3 rows 2 nose 0;speaker s at 2 2;lamp 0 1"), 0, 11, 0);
        duePlace(Check.told("hall long 3 rows 2 nose 0;speaker s at 2 2;lamp 0 1;lamp 1 1;lamp 2 1"), 0, 2, 0);
        duePlace(Check.told("hall long 3 rows 2 nose 0;speaker s at 2 2"), 0, 1, 0);
    }

    @Says("(no lamp, no other speaker there; his own, too)")
    static void promise25_noLamp() {
        // Against a at 0 the dart at 2 is b's from 1, and from 2.
        String hall = "hall long 5 rows 1 nose 0;speaker a at 0 1;speaker b at 4 1;"
                + "member m flat seat 2 far 1 sharp 0 errs 0";
        duePlace(Check.told(hall), 1, 11, 1);
        duePlace(Check.told(hall + ";lamp 1 1"), 1, 21, 1);
        duePlace(Check.told(hall + ";lamp 2 1"), 1, 11, 0);
    }

    @Says("(no lamp, no other speaker there; his own, too)")
    static void promise25_noOtherSpeaker() {
        duePlace(Check.told("hall long 3 rows 1 nose 0;speaker a at 0 1;speaker b at 2 1;"
                + "member m flat seat 0 far 1 sharp 0 errs 0"), 1, 11, 0);
        duePlace(Check.told("hall long 3 rows 1 nose 0;speaker a at 2 1;speaker b at 0 1;"
                + "member m flat seat 0 far 1 sharp 0 errs 0"), 0, 11, 0);
    }

    @Says("(no lamp, no other speaker there; his own, too)")
    static void promise25_hisOwnToo() {
        PaperVote x = Check.told("hall long 3 rows 1 nose 0;speaker a at 1 1;speaker b at 0 1;lamp 2 1;"
                + "member m flat seat 1 far 1 sharp 0 errs 0");
        duePlace(x, 0, 11, 1);
        duePlace(x, 1, 1, 0);
    }

    @Says("most darts that COUNT, without errors, are FOR him")
    static void promise25_onlyDartsThatCount() {
        // Two too sharp ones at 3, one that counts at 0.
        PaperVote x = Check.told("hall long 4 rows 1 nose 0;speaker a at 1 1;speaker b at 2 1;"
                + "member m flat seat 3 far 1 sharp 1 errs 0;member n flat seat 3 far 1 sharp 1 errs 0;"
                + "member o flat seat 0 far 1 sharp 0 errs 100");
        duePlace(x, 1, 1, 1);
    }

    @Says("most darts that COUNT, without errors, are FOR him")
    static void promise25_theLastPlace() {
        PaperVote x = Check.told("hall long 12 rows 6 nose 0;speaker a at 11 5;speaker b at 0 1;"
                + "member m plain seat 11 far 6 sharp 0 errs 0");
        duePlace(x, 1, 116, 1);
        CHECK.due("speaker(1, 0), he stands as he did", x.speaker(1, 0), 0);
    }

    @Says("How many are FOR him there. NONE: 1.")
    static void promise26_noSuchSpeaker() {
        PaperVote x = Check.told(THREE);
        String before = Check.stateOf(x);
        CHECK.dueRefused(x, "placeVotes(-1)", before, x.placeVotes(-1), 1);
        CHECK.dueRefused(x, "placeVotes(3)", before, x.placeVotes(3), 1);
    }

    @Says("How many are FOR him there. NONE: 1.")
    static void promise26_noHall() {
        PaperVote x = new PaperVote();
        CHECK.dueTrouble(x, "placeVotes(0)", x.placeVotes(0), -1, 1);
    }

    @Says("How many are FOR him there. NONE: 1.")
    static void promise26_noneAndAll() {
        duePlace(Check.told(EMPTY), 0, 1, 0);
        String text = EMPTY;
        for (char m = 'a'; m < 'g'; m++) {
            text += ";member " + m + " flat seat 2 far 1 sharp 0 errs 0";
        }
        duePlace(Check.told(text), 0, 1, 6);
    }

    // ---- promise 27

    @Says("What the first (or other, the other) speaker has in a GAME, in two columns. NONE: 1 (unlike; "
            + "columns, too).")
    static void promise27_noSuchSpeaker() {
        PaperVote x = Check.told(THREE);
        dueNoGame(x, -1, 0, 1, 0);
        dueNoGame(x, 3, 0, 1, 0);
        dueNoGame(x, 0, 0, -1, 0);
        dueNoGame(x, 0, 0, 3, 0);
        dueNoGame(x, 3, 0, 4, 0);
        dueNoGame(Check.told(EMPTY), 0, 0, 1, 0);
    }

    @Says("What the first (or other, the other) speaker has in a GAME, in two columns. NONE: 1 (unlike; "
            + "columns, too).")
    static void promise27_likeSpeakers() {
        PaperVote x = Check.told(THREE);
        for (int s = 0; s < 3; s++) {
            dueNoGame(x, s, 0, s, 1);
            dueNoGame(x, s, 0, s, 0);
        }
    }

    @Says("What the first (or other, the other) speaker has in a GAME, in two columns. NONE: 1 (unlike; "
            + "columns, too).")
    static void promise27_noSuchColumn() {
        PaperVote x = Check.told(THREE);
        dueNoGame(x, 0, -1, 1, 0);
        dueNoGame(x, 0, 5, 1, 0);
        dueNoGame(x, 0, 0, 1, -1);
        dueNoGame(x, 0, 0, 1, 5);
        dueNoGame(x, 0, Integer.MAX_VALUE, 1, Integer.MIN_VALUE);
        dueGame(x, new int[] {0, 4, 1, 0}, 1, 1);
    }

    @Says("What the first (or other, the other) speaker has in a GAME, in two columns. NONE: 1 (unlike; "
            + "columns, too).")
    static void promise27_noHall() {
        dueNoGame(new PaperVote(), 0, 0, 1, 0);
    }

    @Says("both in one place: the first of both has all that are nearest there")
    static void promise27_bothInOnePlace() {
        PaperVote x = Check.told(THREE);
        dueGame(x, new int[] {0, 0, 1, 0}, 1, 0);
        dueGame(x, new int[] {1, 0, 0, 0}, 0, 1);
        dueGame(x, new int[] {1, 4, 0, 4}, 0, 1);
    }

    @Says("(all others as NOW;")
    static void promise27_othersStayAndHaveTheirs() {
        // c at 2 of 2 is 3 apart from each dart.
        PaperVote x = Check.told(THREE);
        dueGame(x, new int[] {0, 0, 1, 0}, 1, 0);
        dueGame(x, new int[] {0, 2, 1, 2}, 2, 0);
        dueGame(x, new int[] {0, 0, 2, 4}, 1, 0);
        x.stand(2, 4, 2);
        dueGame(x, new int[] {0, 2, 1, 2}, 1, 0);
    }

    @Says("each stands in some column of the row he is in NOW")
    static void promise27_hisRowNow() {
        PaperVote x = Check.told(THREE);
        dueGame(x, new int[] {1, 0, 2, 0}, 0, 0);
        x.stand(0, 1, 2);
        dueGame(x, new int[] {1, 0, 2, 0}, 1, 0);
        dueGame(x, new int[] {0, 0, 1, 0}, 0, 1);
    }

    @Says("he has as many as are FOR him without errors")
    static void promise27_whereALampOrAThirdIs() {
        PaperVote x = Check.told("hall long 5 rows 1 nose 0;speaker a at 0 1;speaker b at 4 1;speaker c at 2 1;"
                + "lamp 1 1;member m flat seat 1 far 1 sharp 0 errs 0;member n flat seat 3 far 1 sharp 0 errs 9");
        dueGame(x, new int[] {0, 1, 1, 2}, 0, 1);
        dueGame(x, new int[] {0, 2, 1, 1}, 1, 0);
    }

    @Says("he has as many as are FOR him without errors")
    static void promise27_nobodyMoves() {
        PaperVote x = Check.told(THREE);
        String before = Check.stateOf(x);
        x.game(0, 3, 1, 3, false);
        x.rests(0, 1);
        x.rest(1, 2);
        x.place(0);
        CHECK.dueSame(x, "game, rests, rest, place", before);
    }

    // ---- promises 28, 29

    @Says("How many RESTS. NONE: 1 (unlike).")
    static void promise28_noSuchOrLikeSpeakers() {
        PaperVote x = Check.told(THREE);
        int[][] pairs = {{-1, 0}, {0, -1}, {3, 0}, {0, 3}, {0, 0}, {2, 2}, {5, 5}};
        for (int[] p : pairs) {
            CHECK.dueTrouble(x, "rests(" + p[0] + ", " + p[1] + ")", x.rests(p[0], p[1]), -1, 1);
        }
    }

    @Says("How many RESTS. NONE: 1 (unlike).")
    static void promise28_noHallOrOneSpeaker() {
        PaperVote x = new PaperVote();
        CHECK.dueTrouble(x, "rests(0, 1)", x.rests(0, 1), -1, 1);
        PaperVote y = Check.told(EMPTY);
        CHECK.dueTrouble(y, "rests(0, 1)", y.rests(0, 1), -1, 1);
    }

    @Says("REST: a pair by which neither could have more alone.")
    static void promise28_allPairsWithoutDarts() {
        PaperVote x = Check.told("hall long 12 rows 1 nose 0;speaker a at 0 1;speaker b at 1 1");
        CHECK.dueTrouble(x, "rests(0, 1)", x.rests(0, 1), 144, 0);
        CHECK.dueTrouble(x, "rest(0, 1)", x.rest(0, 1), 0, 0);
        PaperVote y = Check.told("hall long 3 rows 1 nose 0;speaker a at 0 1;speaker b at 1 1");
        CHECK.dueTrouble(y, "rests(1, 0)", y.rests(1, 0), 9, 0);
    }

    @Says("REST: a pair by which neither could have more alone.")
    static void promise28_noneAtAll() {
        // Three darts, 0, 2, 2: a takes all where b stands, and b then goes beside.
        PaperVote x = Check.told("hall long 3 rows 1 nose 0;speaker a at 0 1;speaker b at 2 1;"
                + "member m flat seat 0 far 1 sharp 0 errs 0;member n flat seat 2 far 1 sharp 0 errs 0;"
                + "member o flat seat 2 far 1 sharp 0 errs 0");
        CHECK.dueTrouble(x, "rests(0, 1)", x.rests(0, 1), 0, 0);
        CHECK.dueTrouble(x, "rest(0, 1)", x.rest(0, 1), -2, 0);
        CHECK.dueTrouble(x, "rests(1, 0)", x.rests(1, 0), 0, 0);
        CHECK.dueTrouble(x, "rest(1, 0)", x.rest(1, 0), -2, 0);
    }

    @Says("The first, by the one's column, then the other one's: 100 times and; -2. NONE: 1 (unlike).")
    static void promise29_theFirstByTheOnesColumn() {
        // He who was told first must be at the wall himself, the other may be anywhere.
        PaperVote x = Check.told(WALL);
        CHECK.dueTrouble(x, "rests(0, 1)", x.rests(0, 1), 12, 0);
        CHECK.dueTrouble(x, "rest(0, 1)", x.rest(0, 1), 1100, 0);
        CHECK.dueTrouble(x, "rests(1, 0)", x.rests(1, 0), 12, 0);
        CHECK.dueTrouble(x, "rest(1, 0)", x.rest(1, 0), 11, 0);
    }

    @Says("The first, by the one's column, then the other one's: 100 times and; -2. NONE: 1 (unlike).")
    static void promise29_noSuchOrLikeSpeakers() {
        PaperVote x = Check.told(THREE);
        int[][] pairs = {{-1, 0}, {0, -1}, {3, 0}, {0, 3}, {1, 1}, {4, 4}};
        for (int[] p : pairs) {
            CHECK.dueTrouble(x, "rest(" + p[0] + ", " + p[1] + ")", x.rest(p[0], p[1]), -1, 1);
        }
    }

    @Says("The first, by the one's column, then the other one's: 100 times and; -2. NONE: 1 (unlike).")
    static void promise29_noHall() {
        PaperVote x = new PaperVote();
        CHECK.dueTrouble(x, "rest(0, 1)", x.rest(0, 1), -1, 1);
    }

    @Says("How many are FOR him there. NONE: 1.")
    static void promise26_askedAlone() {
        PaperVote x = Check.told(THREE);
        CHECK.due("placeVotes(0), b standing at the other dart", x.placeVotes(0), 1);
        x.fold(0, 0);
        x.aim(0, 2);
        x.sit(0, 2);
        CHECK.due("placeVotes(0), b and c standing at both", x.placeVotes(0), 0);
    }

    @Says("The first, by the one's column, then the other one's: 100 times and; -2. NONE: 1 (unlike).")
    static void promise29_askedAloneAndAfresh() {
        PaperVote x = Check.told("hall long 3 rows 1 nose 0;speaker a at 0 1;speaker b at 2 1;"
                + "member m flat seat 2 far 1 sharp 0 errs 0;member n flat seat 2 far 1 sharp 0 errs 0;"
                + "member o flat seat 2 far 1 sharp 0 errs 0");
        CHECK.due("rest(0, 1), all at 2", x.rest(0, 1), 200);
        x.sit(0, 0);
        CHECK.due("rest(0, 1), one at 0", x.rest(0, 1), -2);
        x.undo();
        CHECK.due("rests(0, 1)", x.rests(0, 1), 3);
        CHECK.due("rest(1, 0)", x.rest(1, 0), 2);
    }
}
