/** Sentences of promises 6 to 16, and of DARTS (Terms II), that name a boundary case. */
public final class NowSentencesTest {
    private static final String EMPTY = "hall long 3 rows 1 nose 0;speaker s at 0 1";
    // Lamps in two corners, speakers in the other two; the second member is too sharp, the third hangs.
    private static final String HALL = "hall long 5 rows 3 nose 5;air 1 left 3;air 2 right 3;fog 3;"
            + "speaker a at 0 1;speaker b at 4 3;lamp 0 3;lamp 4 1;"
            + "member m flat seat 1 far 2 sharp 5 errs 0;member n flat seat 1 far 2 sharp 6 errs 100;"
            + "member o flat seat 4 far 3 sharp 0 errs 7";
    private static final Check CHECK = new Check();

    public static void main(String[] args) throws Exception {
        Sentences.run(NowSentencesTest.class, CHECK);
    }

    private static String member(char name, String fold, int seat, int far) {
        return ";member " + name + " " + fold + " seat " + seat + " far " + far + " sharp 0 errs 0";
    }

    /** Six members of a fold from one seat, aimed at rows 1 to 6. */
    private static PaperVote six(String hall, String fold, int seat) {
        String text = hall;
        for (int far = 1; far <= 6; far++) {
            text += member((char) ('a' + far), fold, seat, far);
        }
        return Check.told(text);
    }

    private static void dueLands(PaperVote x, int... due) {
        for (int m = 0; m < due.length; m++) {
            CHECK.dueTrouble(x, "lands(" + m + ")", x.lands(m), due[m], 0);
        }
    }

    // ---- promise 6

    @Says("3 darts FOR him that COUNT, without errors. NONE: 1.")
    static void promise6_noSuchSpeaker() {
        PaperVote x = Check.told(HALL);
        String before = Check.stateOf(x);
        CHECK.dueRefused(x, "speaker(-1, 0)", before, x.speaker(-1, 0), 1);
        CHECK.dueRefused(x, "speaker(2, 0)", before, x.speaker(2, 0), 1);
        CHECK.dueRefused(x, "speaker(MAX, 0)", before, x.speaker(Integer.MAX_VALUE, 0), 1);
        CHECK.dueRefused(x, "speaker(MIN, 0)", before, x.speaker(Integer.MIN_VALUE, 0), 1);
    }

    @Says("3 darts FOR him that COUNT, without errors. NONE: 1.")
    static void promise6_nothingSuchOfASpeaker() {
        PaperVote x = Check.told(HALL);
        CHECK.dueTrouble(x, "speaker(0, -1)", x.speaker(0, -1), -1, 1);
        CHECK.dueTrouble(x, "speaker(0, 4)", x.speaker(0, 4), -1, 1);
        CHECK.dueTrouble(x, "speaker(0, MAX)", x.speaker(0, Integer.MAX_VALUE), -1, 1);
    }

    @Says("3 darts FOR him that COUNT, without errors. NONE: 1.")
    static void promise6_noHall() {
        PaperVote x = new PaperVote();
        CHECK.dueTrouble(x, "speaker(0, 0)", x.speaker(0, 0), -1, 1);
    }

    @Says("3 darts FOR him that COUNT, without errors. NONE: 1.")
    static void promise6_onlyDartsThatCount() {
        PaperVote x = Check.told(HALL);
        CHECK.dueTrouble(x, "speaker(0, 3), one is too sharp", x.speaker(0, 3), 1, 0);
        CHECK.dueTrouble(x, "speaker(1, 3), one hangs", x.speaker(1, 3), 0, 0);
    }

    @Says("Of a speaker 0 the column, 1 the row NOW, 2 sessions won")
    static void promise6_theFarthestPlace() {
        PaperVote x = Check.told("hall long 12 rows 6 nose 0;speaker s at 11 6");
        CHECK.due("speaker(0, 0)", x.speaker(0, 0), 11);
        CHECK.due("speaker(0, 1)", x.speaker(0, 1), 6);
        CHECK.due("speaker(0, 2)", x.speaker(0, 2), 0);
        x.stand(0, 0, 1);
        CHECK.due("speaker(0, 0) NOW", x.speaker(0, 0), 0);
        CHECK.due("speaker(0, 1) NOW", x.speaker(0, 1), 1);
    }

    // ---- promise 7

    @Says("5 1 if it is no sharper than nose. NONE: 1.")
    static void promise7_noSuchMember() {
        PaperVote x = Check.told(HALL);
        String before = Check.stateOf(x);
        CHECK.dueRefused(x, "member(-1, 0)", before, x.member(-1, 0), 1);
        CHECK.dueRefused(x, "member(3, 0)", before, x.member(3, 0), 1);
        CHECK.dueRefused(x, "member(6, 0)", before, x.member(6, 0), 1);
        PaperVote y = Check.told(EMPTY);
        CHECK.dueTrouble(y, "member(0, 0) of none", y.member(0, 0), -1, 1);
    }

    @Says("5 1 if it is no sharper than nose. NONE: 1.")
    static void promise7_nothingSuchOfAMember() {
        PaperVote x = Check.told(HALL);
        CHECK.dueTrouble(x, "member(0, -1)", x.member(0, -1), -1, 1);
        CHECK.dueTrouble(x, "member(0, 6)", x.member(0, 6), -1, 1);
    }

    @Says("5 1 if it is no sharper than nose. NONE: 1.")
    static void promise7_noHall() {
        PaperVote x = new PaperVote();
        CHECK.dueTrouble(x, "member(0, 0)", x.member(0, 0), -1, 1);
    }

    @Says("5 1 if it is no sharper than nose. NONE: 1.")
    static void promise7_asSharpAsNoseOrOneSharper() {
        PaperVote x = Check.told(HALL);
        CHECK.dueTrouble(x, "member(0, 5), as sharp", x.member(0, 5), 1, 0);
        CHECK.dueTrouble(x, "member(1, 5), one sharper", x.member(1, 5), 0, 0);
        PaperVote y = Check.told("hall long 3 rows 1 nose 0;speaker s at 0 1"
                + ";member m flat seat 0 far 1 sharp 0 errs 0;member n flat seat 0 far 1 sharp 1 errs 0");
        CHECK.due("member(0, 5) by nose 0", y.member(0, 5), 1);
        CHECK.due("member(1, 5) by nose 0", y.member(1, 5), 0);
        PaperVote z = Check.told("hall long 3 rows 1 nose 9;speaker s at 0 1"
                + ";member m flat seat 0 far 1 sharp 9 errs 0");
        CHECK.due("member(0, 5) by nose 9", z.member(0, 5), 1);
    }

    @Says("Of a member 0 FOLD NOW (0 plain, 1 stable, 2 loop, 3 flat), 1 seat NOW, 2 far NOW, 3 sharp, 4 errs")
    static void promise7_leastAndMostOfEach() {
        PaperVote x = Check.told("hall long 12 rows 6 nose 0;speaker s at 0 1"
                + ";member m plain seat 0 far 1 sharp 0 errs 0;member n flat seat 11 far 6 sharp 9 errs 100");
        int[] least = {0, 0, 1, 0, 0, 1};
        int[] most = {3, 11, 6, 9, 100, 0};
        for (int what = 0; what <= 5; what++) {
            CHECK.dueTrouble(x, "member(0, " + what + ")", x.member(0, what), least[what], 0);
            CHECK.dueTrouble(x, "member(1, " + what + ")", x.member(1, what), most[what], 0);
        }
    }

    // ---- promise 8

    @Says("The drift of a row NOW, and 3 (0 .. 6; to the left below 3); 7 unknown. NONE: 1.")
    static void promise8_noSuchRow() {
        PaperVote x = Check.told(HALL);
        String before = Check.stateOf(x);
        CHECK.dueRefused(x, "air(0)", before, x.air(0), 1);
        CHECK.dueRefused(x, "air(4)", before, x.air(4), 1);
        CHECK.dueRefused(x, "air(-1)", before, x.air(-1), 1);
        CHECK.dueRefused(x, "air(MIN)", before, x.air(Integer.MIN_VALUE), 1);
    }

    @Says("The drift of a row NOW, and 3 (0 .. 6; to the left below 3); 7 unknown. NONE: 1.")
    static void promise8_noHall() {
        PaperVote x = new PaperVote();
        CHECK.dueTrouble(x, "air(1)", x.air(1), -1, 1);
        CHECK.dueTrouble(x, "air(0)", x.air(0), -1, 1);
    }

    @Says("The drift of a row NOW, and 3 (0 .. 6; to the left below 3); 7 unknown. NONE: 1.")
    static void promise8_everyDrift() {
        for (int drift = 0; drift <= 3; drift++) {
            PaperVote x = Check.told(EMPTY + ";air 1 left " + drift);
            CHECK.dueTrouble(x, "air(1), left", x.air(1), 3 - drift, 0);
            x = Check.told(EMPTY + ";air 1 right " + drift);
            CHECK.dueTrouble(x, "air(1), right", x.air(1), 3 + drift, 0);
        }
    }

    @Says("The drift of a row NOW, and 3 (0 .. 6; to the left below 3); 7 unknown. NONE: 1.")
    static void promise8_unknownThenKnown() {
        PaperVote x = Check.told(HALL);
        CHECK.dueTrouble(x, "air(3)", x.air(3), 7, 0);
        x.warm(3, 6);
        CHECK.dueTrouble(x, "air(3) NOW", x.air(3), 6, 0);
    }

    // ---- promise 9

    @Says("1 if there is a lamp, else 0. NONE: 1.")
    static void promise9_noSuchPlace() {
        PaperVote x = Check.told(HALL);
        int[][] places = {{-1, 1}, {5, 1}, {0, 0}, {0, 4}, {0, -1}, {Integer.MAX_VALUE, 1}, {0, Integer.MIN_VALUE}};
        for (int[] p : places) {
            CHECK.dueTrouble(x, "lamp(" + p[0] + ", " + p[1] + ")", x.lamp(p[0], p[1]), -1, 1);
        }
    }

    @Says("1 if there is a lamp, else 0. NONE: 1.")
    static void promise9_noHall() {
        PaperVote x = new PaperVote();
        CHECK.dueTrouble(x, "lamp(0, 1)", x.lamp(0, 1), -1, 1);
        CHECK.dueTrouble(x, "lamp(0, 0)", x.lamp(0, 0), -1, 1);
    }

    @Says("1 if there is a lamp, else 0. NONE: 1.")
    static void promise9_everyPlace() {
        PaperVote x = Check.told(HALL + ";lamp 2 2");
        for (int row = 1; row <= 3; row++) {
            for (int column = 0; column <= 4; column++) {
                boolean lamp = column == 0 && row == 3 || column == 4 && row == 1 || column == 2 && row == 2;
                CHECK.dueTrouble(x, "lamp(" + column + ", " + row + ")", x.lamp(column, row), lamp ? 1 : 0, 0);
            }
        }
    }

    // ---- promise 10

    @Says("10 times the column and the row. NONE: 1.")
    static void promise10_noSuchMember() {
        PaperVote x = Check.told(HALL);
        CHECK.dueTrouble(x, "lands(-1)", x.lands(-1), -1, 1);
        CHECK.dueTrouble(x, "lands(3)", x.lands(3), -1, 1);
        CHECK.dueTrouble(x, "lands(MAX)", x.lands(Integer.MAX_VALUE), -1, 1);
        PaperVote y = Check.told(EMPTY);
        CHECK.dueTrouble(y, "lands(0) of none", y.lands(0), -1, 1);
    }

    @Says("10 times the column and the row. NONE: 1.")
    static void promise10_noHall() {
        PaperVote x = new PaperVote();
        CHECK.dueTrouble(x, "lands(0)", x.lands(0), -1, 1);
    }

    @Says("10 times the column and the row. NONE: 1.")
    static void promise10_theFarthestPlace() {
        dueLands(Check.told("hall long 12 rows 6 nose 0;speaker s at 0 1" + member('m', "plain", 11, 6)
                + member('n', "plain", 0, 1)), 116, 1);
    }

    @Says("no further than to the wall (column 0, long less 1)")
    static void promise10_theLeftWall() {
        dueLands(six("hall long 4 rows 6 nose 0;air 1 left 1;air 2 left 1;air 3 left 3;air 4 right 1;air 5 left 2;"
                + "air 6 right 3;speaker s at 0 1", "plain", 1), 1, 2, 3, 14, 5, 36);
    }

    @Says("no further than to the wall (column 0, long less 1)")
    static void promise10_theRightWall() {
        dueLands(six("hall long 4 rows 6 nose 0;air 1 right 1;air 2 right 1;air 3 right 3;air 4 left 1;"
                + "air 5 right 2;air 6 left 3;speaker s at 0 1", "plain", 2), 31, 32, 33, 24, 35, 6);
    }

    @Says("no further than to the wall (column 0, long less 1)")
    static void promise10_theWallForAStableOneToo() {
        dueLands(Check.told("hall long 3 rows 2 nose 0;air 1 left 2;air 2 right 3;speaker s at 0 1"
                + member('m', "stable", 0, 1) + member('n', "stable", 0, 2)), 1, 12);
    }

    @Says("it goes through rows 1 to far: in each it drifts by that row's air")
    static void promise10_notTheRowBehindFar() {
        dueLands(six("hall long 12 rows 6 nose 0;air 1 right 1;air 2 right 2;air 3 right 3;air 4 left 1;"
                + "air 5 left 2;air 6 left 3;speaker s at 0 1", "plain", 0), 11, 32, 63, 54, 35, 6);
    }

    @Says("STABLE: half as many cells (downwards) in each row.")
    static void promise10_stableHalvesDownwardsToBothSides() {
        dueLands(six("hall long 12 rows 6 nose 0;air 1 right 1;air 2 right 2;air 3 right 3;air 4 left 1;"
                + "air 5 left 2;air 6 left 3;speaker s at 0 1", "stable", 5), 51, 62, 73, 74, 65, 56);
    }

    @Says("LOOP: as plain; in its last row, behind its drift")
    static void promise10_loopBehindTheDriftOfItsLastRow() {
        dueLands(Check.told("hall long 6 rows 2 nose 0;air 1 right 1;air 2 right 1;speaker s at 0 1"
                + member('m', "loop", 0, 1) + member('n', "loop", 0, 2)), 41, 32);
    }

    @Says("(column long less 1 less it)")
    static void promise10_loopFromWallToWall() {
        dueLands(Check.told("hall long 5 rows 1 nose 0;speaker s at 0 1" + member('m', "loop", 0, 1)
                + member('n', "loop", 4, 1) + member('o', "loop", 2, 1) + member('p', "loop", 1, 1)),
                41, 1, 21, 31);
    }

    @Says("FLAT: no drift, half as far (downwards, 1 at least).")
    static void promise10_flatHalvesDownwardsOneAtLeast() {
        dueLands(six("hall long 12 rows 6 nose 0;air 1 right 3;air 2 left 2;fog 3;speaker s at 0 1", "flat", 7),
                71, 71, 71, 72, 72, 73);
    }

    @Says("Unknown airs count as 0.")
    static void promise10_unknownAirs() {
        dueLands(Check.told("hall long 6 rows 3 nose 0;fog 1;air 2 right 1;fog 3;speaker s at 0 1"
                + member('m', "plain", 2, 1) + member('n', "stable", 2, 3) + member('o', "plain", 2, 3)
                + member('p', "loop", 2, 3)), 21, 23, 33, 23);
    }

    @Says("Where a member's dart comes down without error")
    static void promise10_errorsDoNotMatter() {
        PaperVote x = Check.told(EMPTY + ";member m flat seat 1 far 1 sharp 9 errs 100");
        CHECK.due("lands(0)", x.lands(0), 11);
    }

    // ---- promise 11

    @Says("The speaker FOR whom it is; -2 it doesn't COUNT. NONE: 1.")
    static void promise11_noSuchMember() {
        PaperVote x = Check.told(HALL);
        CHECK.dueTrouble(x, "votes(-1)", x.votes(-1), -1, 1);
        CHECK.dueTrouble(x, "votes(3)", x.votes(3), -1, 1);
        PaperVote y = Check.told(EMPTY);
        CHECK.dueTrouble(y, "votes(0) of none", y.votes(0), -1, 1);
    }

    @Says("The speaker FOR whom it is; -2 it doesn't COUNT. NONE: 1.")
    static void promise11_noHall() {
        PaperVote x = new PaperVote();
        CHECK.dueTrouble(x, "votes(0)", x.votes(0), -1, 1);
    }

    @Says("It doesn't COUNT if it is sharper than nose")
    static void promise11_asSharpAsNoseOrOneSharper() {
        PaperVote x = Check.told(HALL);
        CHECK.dueTrouble(x, "votes(0), as sharp", x.votes(0), 0, 0);
        CHECK.dueTrouble(x, "votes(1), one sharper", x.votes(1), -2, 0);
    }

    @Says("or comes down at a lamp (it hangs)")
    static void promise11_atALampAndBesideIt() {
        PaperVote x = Check.told(HALL);
        CHECK.dueTrouble(x, "votes(2) at 4 of 1", x.votes(2), -2, 0);
        x.sit(2, 3);
        CHECK.dueTrouble(x, "votes(2) at 3 of 1", x.votes(2), 0, 0);
        x.sit(2, 4);
        x.fold(2, 0);
        x.aim(2, 2);
        x.warm(1, 3);
        CHECK.dueTrouble(x, "votes(2) at 4 of 2", x.votes(2), 1, 0);
    }

    @Says("It is FOR the nearest speaker, columns and rows apart together, of like ones the first.")
    static void promise11_ofLikeOnesTheFirst() {
        PaperVote x = Check.told("hall long 5 rows 1 nose 0;speaker a at 4 1;speaker b at 0 1"
                + member('m', "flat", 2, 1) + member('n', "flat", 1, 1) + member('o', "flat", 3, 1));
        CHECK.due("votes(0), as far from both", x.votes(0), 0);
        CHECK.due("votes(1)", x.votes(1), 1);
        CHECK.due("votes(2)", x.votes(2), 0);
    }

    // ---- promise 12

    @Says("The speaker nearest to a place. NONE: 1.")
    static void promise12_noSuchPlace() {
        PaperVote x = Check.told(HALL);
        int[][] places = {{-1, 1}, {5, 1}, {0, 0}, {0, 4}, {4, -1}, {Integer.MIN_VALUE, 1}, {0, Integer.MAX_VALUE}};
        for (int[] p : places) {
            CHECK.dueTrouble(x, "nearest(" + p[0] + ", " + p[1] + ")", x.nearest(p[0], p[1]), -1, 1);
        }
    }

    @Says("The speaker nearest to a place. NONE: 1.")
    static void promise12_noHall() {
        PaperVote x = new PaperVote();
        CHECK.dueTrouble(x, "nearest(0, 1)", x.nearest(0, 1), -1, 1);
        CHECK.dueTrouble(x, "nearest(0, 0)", x.nearest(0, 0), -1, 1);
    }

    @Says("It is FOR the nearest speaker, columns and rows apart together, of like ones the first.")
    static void promise12_everyPlaceOfAHall() {
        // From 0 of 1 and 4 of 3: as far where column and row less 1 are 3 together; the first there.
        PaperVote x = Check.told(HALL);
        for (int row = 1; row <= 3; row++) {
            for (int column = 0; column <= 4; column++) {
                int due = column + row - 1 <= 3 ? 0 : 1;
                CHECK.dueTrouble(x, "nearest(" + column + ", " + row + ")", x.nearest(column, row), due, 0);
            }
        }
    }

    @Says("It is FOR the nearest speaker, columns and rows apart together, of like ones the first.")
    static void promise12_ofFourLikeOnesTheFirst() {
        PaperVote x = Check.told("hall long 3 rows 3 nose 0;speaker a at 1 1;speaker b at 0 2;speaker c at 2 2;"
                + "speaker d at 1 3");
        CHECK.due("nearest(1, 2)", x.nearest(1, 2), 0);
        CHECK.due("nearest(2, 3), like for the last two", x.nearest(2, 3), 2);
        CHECK.due("nearest(1, 3), his own", x.nearest(1, 3), 3);
    }

    // ---- promise 13

    @Says("WINNER; -2. NONE: 1 (no HALL).")
    static void promise13_noHall() {
        PaperVote x = new PaperVote();
        CHECK.dueTrouble(x, "winner()", x.winner(), -1, 1);
    }

    @Says("nobody if none COUNTS")
    static void promise13_nobody() {
        PaperVote x = Check.told(EMPTY);
        CHECK.dueTrouble(x, "winner() without members", x.winner(), -2, 0);
        PaperVote y = Check.told(EMPTY + ";member m flat seat 0 far 1 sharp 1 errs 0");
        CHECK.dueTrouble(y, "winner(), all too sharp", y.winner(), -2, 0);
        PaperVote z = Check.told(EMPTY + ";lamp 1 1" + member('m', "flat", 1, 1));
        CHECK.dueTrouble(z, "winner(), all hang", z.winner(), -2, 0);
    }

    @Says("WINNER: who has most that COUNT, of like ones the first; nobody if none COUNTS.")
    static void promise13_ofLikeOnesTheFirst() {
        String hall = "hall long 3 rows 1 nose 0;speaker a at 1 1;speaker b at 0 1;speaker c at 2 1";
        CHECK.due("one each for b and c", Check.told(hall + member('m', "flat", 2, 1)
                + member('n', "flat", 0, 1)).winner(), 1);
        CHECK.due("two for c, one for b", Check.told(hall + member('m', "flat", 0, 1)
                + member('n', "flat", 2, 1) + member('o', "flat", 2, 1)).winner(), 2);
        CHECK.due("one each", Check.told(hall + member('m', "flat", 2, 1) + member('n', "flat", 0, 1)
                + member('o', "flat", 1, 1)).winner(), 0);
    }

    @Says("WINNER: who has most that COUNT, of like ones the first; nobody if none COUNTS.")
    static void promise13_byOneMemberOrAmongFourSpeakers() {
        String hall = "hall long 4 rows 1 nose 0;speaker a at 0 1;speaker b at 1 1;speaker c at 2 1;speaker d at 3 1";
        for (int s = 0; s < 4; s++) {
            PaperVote x = Check.told(hall + member('m', "flat", s, 1));
            CHECK.dueTrouble(x, "winner() by a dart at " + s, x.winner(), s, 0);
        }
    }

    @Says("WINNER: who has most that COUNT, of like ones the first; nobody if none COUNTS.")
    static void promise13_countedAfreshEachTime() {
        PaperVote x = Check.told("hall long 3 rows 1 nose 0;speaker a at 0 1;speaker b at 2 1;lamp 1 1"
                + member('m', "flat", 0, 1));
        for (int i = 0; i < 3; i++) {
            CHECK.due("winner()", x.winner(), 0);
            x.sit(0, 2);
            CHECK.due("winner() from another seat", x.winner(), 1);
            x.sit(0, 1);
            CHECK.due("winner(), it hangs", x.winner(), -2);
            x.sit(0, 0);
        }
    }

    // ---- promise 14

    @Says("How many COUNT without errors. NONE: 1 (no HALL).")
    static void promise14_noHall() {
        PaperVote x = new PaperVote();
        CHECK.dueTrouble(x, "counted()", x.counted(), -1, 1);
    }

    @Says("How many COUNT without errors. NONE: 1 (no HALL).")
    static void promise14_noneAndAll() {
        PaperVote x = Check.told(EMPTY);
        CHECK.dueTrouble(x, "counted() without members", x.counted(), 0, 0);
        PaperVote y = six("hall long 3 rows 6 nose 0;speaker s at 0 1", "plain", 1);
        CHECK.dueTrouble(y, "counted() of six", y.counted(), 6, 0);
        PaperVote z = Check.told(HALL);
        CHECK.dueTrouble(z, "counted(), one too sharp, one hangs", z.counted(), 1, 0);
    }

    // ---- promise 15

    @Says("Darts that hang, without errors, as bits of members. NONE: 1 (no HALL).")
    static void promise15_noHall() {
        PaperVote x = new PaperVote();
        CHECK.dueTrouble(x, "hang()", x.hang(), -1, 1);
    }

    @Says("Darts that hang, without errors, as bits of members. NONE: 1 (no HALL).")
    static void promise15_noneAndAll() {
        PaperVote x = Check.told(EMPTY + ";lamp 1 1");
        CHECK.dueTrouble(x, "hang() without members", x.hang(), 0, 0);
        PaperVote y = six("hall long 3 rows 6 nose 0;speaker s at 0 1;lamp 2 1;lamp 2 2;lamp 2 3", "flat", 2);
        CHECK.dueTrouble(y, "hang() of six", y.hang(), 63, 0);
        y.sit(0, 1);
        y.sit(4, 1);
        CHECK.dueTrouble(y, "hang() but for the first and the fifth", y.hang(), 46, 0);
    }

    @Says("or comes down at a lamp (it hangs)")
    static void promise15_aSharpOneHangsToo() {
        PaperVote x = Check.told(EMPTY + ";lamp 1 1;member m flat seat 1 far 1 sharp 9 errs 0");
        CHECK.due("hang()", x.hang(), 1);
    }

    // ---- promise 16

    @Says("-2 no member. NONE: 1 (no HALL).")
    static void promise16_noHall() {
        PaperVote x = new PaperVote();
        CHECK.dueTrouble(x, "thickest()", x.thickest(), -1, 1);
    }

    @Says("-2 no member. NONE: 1 (no HALL).")
    static void promise16_noMember() {
        PaperVote x = Check.told(EMPTY);
        CHECK.dueTrouble(x, "thickest()", x.thickest(), -2, 0);
    }

    @Says("of like ones the first by rows, columns")
    static void promise16_ofLikeOnesTheFirst() {
        String hall = "hall long 12 rows 6 nose 0;speaker s at 0 1";
        CHECK.due("row 1 ahead of column 0", Check.told(hall + member('m', "plain", 0, 2)
                + member('n', "plain", 11, 1)).thickest(), 111);
        CHECK.due("column 3 ahead of 4", Check.told(hall + member('m', "plain", 4, 1)
                + member('n', "plain", 3, 1)).thickest(), 31);
        CHECK.due("two in the last place", Check.told(hall + member('m', "plain", 0, 1)
                + member('n', "plain", 11, 6) + member('o', "plain", 11, 6)).thickest(), 116);
    }

    @Says("The place in which most darts come down without errors")
    static void promise16_thoseThatDoNotCountToo() {
        PaperVote x = Check.told(EMPTY + ";lamp 2 1" + member('m', "flat", 2, 1) + member('n', "flat", 2, 1)
                + member('o', "flat", 0, 1));
        CHECK.due("thickest() at a lamp", x.thickest(), 21);
    }

    @Says("The place in which most darts come down without errors")
    static void promise16_theFirstColumnAndSixDarts() {
        PaperVote x = six("hall long 3 rows 6 nose 0;speaker s at 2 6", "flat", 0);
        CHECK.due("thickest(), three at 0 of 1", x.thickest(), 1);
        for (int m = 0; m < 3; m++) {
            x.sit(m, 2);
        }
        CHECK.due("thickest(), three at 2 of 1", x.thickest(), 21);
    }

    @Says("The place in which most darts come down without errors")
    static void promise16_countedAfreshEachTime() {
        PaperVote x = Check.told("hall long 3 rows 1 nose 0;speaker s at 0 1" + member('m', "flat", 2, 1));
        for (int i = 0; i < 8; i++) {
            x.place(0);
            CHECK.due("thickest()", x.thickest(), i % 2 == 0 ? 21 : 1);
            x.sit(0, i % 2 == 0 ? 0 : 2);
        }
    }
}
