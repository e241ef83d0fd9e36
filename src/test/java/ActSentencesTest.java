/** Sentences of promises 42 to 46 and 49 to 51 (ACTS, UNDO, IMAGES) that name a boundary case. */
public final class ActSentencesTest {
    private static final String EMPTY = "hall long 3 rows 1 nose 0;speaker s at 0 1";
    private static final String HALL = "hall long 5 rows 3 nose 5;air 1 left 3;fog 2;speaker a at 0 1;"
            + "speaker b at 4 3;lamp 2 2;member m plain seat 1 far 1 sharp 0 errs 40;"
            + "member n flat seat 4 far 3 sharp 9 errs 0";
    private static final int KEPT = 16;
    private static final Check CHECK = new Check();

    public static void main(String[] args) throws Exception {
        Sentences.run(ActSentencesTest.class, CHECK);
    }

    /** A HALL with something to undo, an IMAGE and a SEED, so that each could be lost. */
    private static PaperVote used() {
        PaperVote x = Check.told(HALL);
        x.seed(3);
        x.session();
        x.image();
        x.sit(0, 2);
        return x;
    }

    /** An ACT that is done, and undone again. */
    private static void dueAct(PaperVote x, String call, String before, boolean done) {
        CHECK.dueTrouble(x, call, done, true, 0);
        CHECK.due("ACTS that can be undone behind " + call, x.size(10), 3);
        CHECK.dueTrouble(x, "undo() of " + call, x.undo(), true, 0);
        CHECK.dueSame(x, "undo() of " + call, before);
    }

    // ---- promise 42

    @Says("SIT: true; false: 1; 5 (it sits there).")
    static void promise42_noSuchMemberOrColumn() {
        PaperVote x = used();
        String before = Check.stateOf(x);
        CHECK.dueRefused(x, "sit(-1, 0)", before, x.sit(-1, 0), 1);
        CHECK.dueRefused(x, "sit(2, 0)", before, x.sit(2, 0), 1);
        CHECK.dueRefused(x, "sit(0, -1)", before, x.sit(0, -1), 1);
        CHECK.dueRefused(x, "sit(0, 5)", before, x.sit(0, 5), 1);
        CHECK.dueRefused(x, "sit(MAX, MIN)", before, x.sit(Integer.MAX_VALUE, Integer.MIN_VALUE), 1);
    }

    @Says("SIT: true; false: 1; 5 (it sits there).")
    static void promise42_noHallOrMember() {
        PaperVote x = new PaperVote();
        CHECK.dueTrouble(x, "sit(0, 0)", x.sit(0, 0), false, 1);
        PaperVote y = Check.told(EMPTY);
        CHECK.dueTrouble(y, "sit(0, 0)", y.sit(0, 0), false, 1);
    }

    @Says("SIT: true; false: 1; 5 (it sits there).")
    static void promise42_itSitsThere() {
        PaperVote x = used();
        String before = Check.stateOf(x);
        CHECK.dueRefused(x, "sit(0, 2)", before, x.sit(0, 2), 5);
        CHECK.dueRefused(x, "sit(1, 4)", before, x.sit(1, 4), 5);
    }

    @Says("SIT: true; false: 1; 5 (it sits there).")
    static void promise42_theFirstAndTheLastSeat() {
        PaperVote x = used();
        String before = Check.stateOf(x);
        dueAct(x, "sit(0, 0)", before, x.sit(0, 0));
        dueAct(x, "sit(0, 4), where another sits", before, x.sit(0, 4));
        x.sit(0, 4);
        CHECK.due("member(0, 1)", x.member(0, 1), 4);
    }

    // ---- promise 43

    @Says("FOLD (0 .. 3): true; false: 1; 2; 5 (it is folded so).")
    static void promise43_noSuchMember() {
        PaperVote x = used();
        String before = Check.stateOf(x);
        CHECK.dueRefused(x, "fold(-1, 1)", before, x.fold(-1, 1), 1);
        CHECK.dueRefused(x, "fold(2, 1)", before, x.fold(2, 1), 1);
        CHECK.dueRefused(x, "fold(2, 4), 1 ahead of 2", before, x.fold(2, 4), 1);
    }

    @Says("FOLD (0 .. 3): true; false: 1; 2; 5 (it is folded so).")
    static void promise43_noHallOrMember() {
        PaperVote x = new PaperVote();
        CHECK.dueTrouble(x, "fold(0, 0)", x.fold(0, 0), false, 1);
        PaperVote y = Check.told(EMPTY);
        CHECK.dueTrouble(y, "fold(0, 4)", y.fold(0, 4), false, 1);
    }

    @Says("FOLD (0 .. 3): true; false: 1; 2; 5 (it is folded so).")
    static void promise43_noSuchFold() {
        PaperVote x = used();
        String before = Check.stateOf(x);
        CHECK.dueRefused(x, "fold(0, -1)", before, x.fold(0, -1), 2);
        CHECK.dueRefused(x, "fold(0, 4)", before, x.fold(0, 4), 2);
        CHECK.dueRefused(x, "fold(0, MAX)", before, x.fold(0, Integer.MAX_VALUE), 2);
        CHECK.dueRefused(x, "fold(0, MIN)", before, x.fold(0, Integer.MIN_VALUE), 2);
    }

    @Says("FOLD (0 .. 3): true; false: 1; 2; 5 (it is folded so).")
    static void promise43_itIsFoldedSo() {
        PaperVote x = used();
        String before = Check.stateOf(x);
        CHECK.dueRefused(x, "fold(0, 0)", before, x.fold(0, 0), 5);
        CHECK.dueRefused(x, "fold(1, 3)", before, x.fold(1, 3), 5);
    }

    @Says("FOLD (0 .. 3): true; false: 1; 2; 5 (it is folded so).")
    static void promise43_theFirstAndTheLastFold() {
        PaperVote x = used();
        String before = Check.stateOf(x);
        dueAct(x, "fold(0, 3)", before, x.fold(0, 3));
        dueAct(x, "fold(1, 0)", before, x.fold(1, 0));
        x.fold(1, 0);
        CHECK.due("member(1, 0)", x.member(1, 0), 0);
    }

    // ---- promise 44

    @Says("AIM: true; false: 1; 5 (it does).")
    static void promise44_noSuchMemberOrRow() {
        PaperVote x = used();
        String before = Check.stateOf(x);
        CHECK.dueRefused(x, "aim(-1, 2)", before, x.aim(-1, 2), 1);
        CHECK.dueRefused(x, "aim(2, 2)", before, x.aim(2, 2), 1);
        CHECK.dueRefused(x, "aim(0, 0)", before, x.aim(0, 0), 1);
        CHECK.dueRefused(x, "aim(0, 4)", before, x.aim(0, 4), 1);
        CHECK.dueRefused(x, "aim(0, -1)", before, x.aim(0, -1), 1);
    }

    @Says("AIM: true; false: 1; 5 (it does).")
    static void promise44_noHallOrMember() {
        PaperVote x = new PaperVote();
        CHECK.dueTrouble(x, "aim(0, 1)", x.aim(0, 1), false, 1);
        PaperVote y = Check.told(EMPTY);
        CHECK.dueTrouble(y, "aim(0, 1)", y.aim(0, 1), false, 1);
    }

    @Says("AIM: true; false: 1; 5 (it does).")
    static void promise44_itDoes() {
        PaperVote x = used();
        String before = Check.stateOf(x);
        CHECK.dueRefused(x, "aim(0, 1)", before, x.aim(0, 1), 5);
        CHECK.dueRefused(x, "aim(1, 3)", before, x.aim(1, 3), 5);
    }

    @Says("AIM: true; false: 1; 5 (it does).")
    static void promise44_theFirstAndTheLastRow() {
        PaperVote x = used();
        String before = Check.stateOf(x);
        dueAct(x, "aim(0, 3)", before, x.aim(0, 3));
        dueAct(x, "aim(1, 1)", before, x.aim(1, 1));
        x.aim(0, 3);
        CHECK.due("member(0, 2)", x.member(0, 2), 3);
    }

    // ---- promise 45

    @Says("WARM by a drift and 3 (0 .. 6): true; false: 1; 2; 5 (it is so NOW).")
    static void promise45_noSuchRow() {
        PaperVote x = used();
        String before = Check.stateOf(x);
        CHECK.dueRefused(x, "warm(0, 3)", before, x.warm(0, 3), 1);
        CHECK.dueRefused(x, "warm(4, 3)", before, x.warm(4, 3), 1);
        CHECK.dueRefused(x, "warm(-1, 3)", before, x.warm(-1, 3), 1);
        CHECK.dueRefused(x, "warm(4, 7), 1 ahead of 2", before, x.warm(4, 7), 1);
    }

    @Says("WARM by a drift and 3 (0 .. 6): true; false: 1; 2; 5 (it is so NOW).")
    static void promise45_noHall() {
        PaperVote x = new PaperVote();
        CHECK.dueTrouble(x, "warm(1, 0)", x.warm(1, 0), false, 1);
        CHECK.dueTrouble(x, "warm(1, 7)", x.warm(1, 7), false, 1);
    }

    @Says("WARM by a drift and 3 (0 .. 6): true; false: 1; 2; 5 (it is so NOW).")
    static void promise45_noSuchDrift() {
        PaperVote x = used();
        String before = Check.stateOf(x);
        CHECK.dueRefused(x, "warm(1, -1)", before, x.warm(1, -1), 2);
        CHECK.dueRefused(x, "warm(1, 7)", before, x.warm(1, 7), 2);
        CHECK.dueRefused(x, "warm(2, 7), though unknown", before, x.warm(2, 7), 2);
        CHECK.dueRefused(x, "warm(1, MAX)", before, x.warm(1, Integer.MAX_VALUE), 2);
    }

    @Says("WARM by a drift and 3 (0 .. 6): true; false: 1; 2; 5 (it is so NOW).")
    static void promise45_itIsSo() {
        PaperVote x = used();
        String before = Check.stateOf(x);
        CHECK.dueRefused(x, "warm(1, 0)", before, x.warm(1, 0), 5);
        CHECK.dueRefused(x, "warm(3, 3), not told of", before, x.warm(3, 3), 5);
    }

    @Says("WARM (a row's air; it is known then)")
    static void promise45_anUnknownOneIsNotSoByAnyDrift() {
        for (int drift = 0; drift <= 6; drift++) {
            PaperVote x = used();
            String before = Check.stateOf(x);
            dueAct(x, "warm(2, " + drift + ")", before, x.warm(2, drift));
            x.warm(2, drift);
            CHECK.due("air(2)", x.air(2), drift);
            CHECK.due("rows not known", x.size(7), 0);
            CHECK.dueTrouble(x, "warm(2, " + drift + ") again", x.warm(2, drift), false, 5);
        }
    }

    @Says("WARM by a drift and 3 (0 .. 6): true; false: 1; 2; 5 (it is so NOW).")
    static void promise45_theLeastAndTheMostDrift() {
        PaperVote x = used();
        x.warm(3, 0);
        CHECK.due("air(3)", x.air(3), 0);
        x.warm(1, 6);
        CHECK.due("air(1)", x.air(1), 6);
        CHECK.due("lands(0), by three to the right from 2", x.lands(0), 41);
    }

    // ---- promise 46

    @Says("STAND: true; false: 1; 5 (a speaker, or a lamp is there).")
    static void promise46_noSuchSpeakerOrPlace() {
        PaperVote x = used();
        String before = Check.stateOf(x);
        int[][] wrong = {{-1, 1, 1}, {2, 1, 1}, {0, -1, 1}, {0, 5, 1}, {0, 1, 0}, {0, 1, 4}, {9, 9, 9}};
        for (int[] w : wrong) {
            CHECK.dueRefused(x, "stand(" + w[0] + ", " + w[1] + ", " + w[2] + ")", before,
                    x.stand(w[0], w[1], w[2]), 1);
        }
    }

    @Says("STAND: true; false: 1; 5 (a speaker, or a lamp is there).")
    static void promise46_noHall() {
        PaperVote x = new PaperVote();
        CHECK.dueTrouble(x, "stand(0, 0, 1)", x.stand(0, 0, 1), false, 1);
    }

    @Says("STAND: true; false: 1; 5 (a speaker, or a lamp is there).")
    static void promise46_aSpeakerIsThere() {
        PaperVote x = used();
        String before = Check.stateOf(x);
        CHECK.dueRefused(x, "stand(0, 4, 3), another", before, x.stand(0, 4, 3), 5);
        CHECK.dueRefused(x, "stand(1, 0, 1), another", before, x.stand(1, 0, 1), 5);
        CHECK.dueRefused(x, "stand(0, 0, 1), himself", before, x.stand(0, 0, 1), 5);
    }

    @Says("STAND: true; false: 1; 5 (a speaker, or a lamp is there).")
    static void promise46_aLampIsThere() {
        PaperVote x = used();
        String before = Check.stateOf(x);
        CHECK.dueRefused(x, "stand(0, 2, 2)", before, x.stand(0, 2, 2), 5);
        dueAct(x, "stand(0, 2, 1), beside it", before, x.stand(0, 2, 1));
        dueAct(x, "stand(0, 1, 2), beside it", before, x.stand(0, 1, 2));
    }

    @Says("STAND: true; false: 1; 5 (a speaker, or a lamp is there).")
    static void promise46_cornersAndPlacesThatWereLeft() {
        PaperVote x = used();
        String before = Check.stateOf(x);
        dueAct(x, "stand(0, 4, 1)", before, x.stand(0, 4, 1));
        dueAct(x, "stand(1, 0, 3)", before, x.stand(1, 0, 3));
        x.stand(0, 4, 1);
        CHECK.dueTrouble(x, "stand(1, 0, 1), which was left", x.stand(1, 0, 1), true, 0);
        CHECK.due("speaker(1, 0)", x.speaker(1, 0), 0);
        CHECK.due("speaker(1, 1)", x.speaker(1, 1), 1);
    }

    @Says("STAND: true; false: 1; 5 (a speaker, or a lamp is there).")
    static void promise46_everyPlaceOfAFullHall() {
        String text = "hall long 5 rows 6 nose 9;air 6 left 2;speaker a at 0 2;speaker b at 1 1;speaker c at 3 4;"
                + "speaker d at 4 6;lamp 0 1;lamp 4 5;lamp 2 3;member m flat seat 0 far 4 sharp 0 errs 0";
        String taken = " 0,2 1,1 3,4 4,6 0,1 4,5 2,3 ";
        for (int s = 0; s < 4; s++) {
            PaperVote x = Check.told(text);
            for (int i = 0; i < 4; i++) {
                x.session();
            }
            for (int row = 1; row <= 6; row++) {
                for (int column = 0; column <= 4; column++) {
                    boolean free = !taken.contains(" " + column + "," + row + " ");
                    CHECK.dueTrouble(x, "stand(" + s + ", " + column + ", " + row + ")",
                            x.stand(s, column, row), free, free ? 0 : 5);
                    if (free) {
                        x.undo();
                    }
                }
            }
        }
    }

    // ---- promise 49

    @Says("UNDO: true; false: 6.")
    static void promise49_nothingToUndo() {
        PaperVote x = new PaperVote();
        CHECK.dueTrouble(x, "undo() without a HALL", x.undo(), false, 6);
        PaperVote y = Check.told(HALL);
        String before = Check.stateOf(y);
        CHECK.dueRefused(y, "undo() of a new HALL", before, y.undo(), 6);
    }

    @Says("UNDO: true; false: 6.")
    static void promise49_refusedCallsAreNoActs() {
        PaperVote x = Check.told(HALL);
        x.sit(0, 1);
        x.sit(9, 1);
        x.fold(0, 4);
        x.aim(0, 1);
        x.warm(1, 0);
        x.stand(0, 2, 2);
        x.seed(-1);
        x.image();
        CHECK.due("ACTS that can be undone", x.size(10), 0);
        CHECK.dueTrouble(x, "undo()", x.undo(), false, 6);
    }

    @Says("all, SEED too, is as ahead of the latest (16 are kept)")
    static void promise49_seedToo() {
        PaperVote x = Check.told(HALL);
        x.seed(5);
        x.sit(0, 0);
        x.seed(77);
        CHECK.dueTrouble(x, "undo()", x.undo(), true, 0);
        CHECK.due("SEED", x.size(9), 5);
        CHECK.due("member(0, 1)", x.member(0, 1), 1);
    }

    @Says("all, SEED too, is as ahead of the latest (16 are kept)")
    static void promise49_aSession() {
        PaperVote x = Check.told(HALL);
        x.seed(5);
        String before = Check.stateOf(x);
        int won = x.session();
        CHECK.due("speaker(" + won + ", 2)", x.speaker(won, 2), 1);
        CHECK.due("undo()", x.undo(), true);
        CHECK.dueSame(x, "undo()", before);
    }

    @Says("all, SEED too, is as ahead of the latest (16 are kept)")
    static void promise49_sixteenAndNoMore() {
        for (int acts = 15; acts <= 40; acts++) {
            PaperVote x = Check.told("hall long 12 rows 1 nose 0;speaker s at 0 1;"
                    + "member m flat seat 11 far 1 sharp 0 errs 0");
            for (int i = 0; i < acts; i++) {
                x.sit(0, i % 11);
            }
            int kept = Math.min(acts, KEPT);
            CHECK.due("ACTS that can be undone of " + acts, x.size(10), kept);
            for (int i = 1; i <= kept; i++) {
                CHECK.dueTrouble(x, "undo() " + i + " of " + acts, x.undo(), true, 0);
                int act = acts - i;
                CHECK.due("member(0, 1)", x.member(0, 1), act == 0 ? 11 : (act - 1) % 11);
                CHECK.due("ACTS that can be undone", x.size(10), kept - i);
            }
            CHECK.dueTrouble(x, "undo() once more of " + acts, x.undo(), false, 6);
        }
    }

    @Says("all, SEED too, is as ahead of the latest (16 are kept)")
    static void promise49_roomAgainBehindUndoing() {
        PaperVote x = Check.told("hall long 12 rows 1 nose 0;speaker s at 0 1;"
                + "member m flat seat 11 far 1 sharp 0 errs 0");
        for (int i = 0; i < 20; i++) {
            x.sit(0, i % 11);
        }
        for (int i = 0; i < 10; i++) {
            x.undo();
        }
        CHECK.due("member(0, 1)", x.member(0, 1), 9);
        for (int i = 0; i < 12; i++) {
            x.aim(0, 1);
            x.fold(0, (i + 1) % 2);
        }
        CHECK.due("ACTS that can be undone", x.size(10), KEPT);
        for (int i = 0; i < 12; i++) {
            CHECK.due("undo()", x.undo(), true);
        }
        CHECK.due("member(0, 0)", x.member(0, 0), 3);
        CHECK.due("member(0, 1)", x.member(0, 1), 9);
        for (int i = 8; i >= 5; i--) {
            CHECK.due("undo()", x.undo(), true);
            CHECK.due("member(0, 1)", x.member(0, 1), i);
        }
        CHECK.dueTrouble(x, "undo()", x.undo(), false, 6);
    }

    @Says("all, SEED too, is as ahead of the latest (16 are kept)")
    static void promise49_imagesStay() {
        PaperVote x = Check.told(HALL);
        x.sit(0, 0);
        x.image();
        x.undo();
        CHECK.due("IMAGES", x.size(11), 1);
        CHECK.due("back(0)", x.back(0), true);
        CHECK.due("member(0, 1)", x.member(0, 1), 0);
    }

    // ---- promise 50

    @Says("An IMAGE: its number. NONE: 1 (no HALL); 3.")
    static void promise50_noHall() {
        PaperVote x = new PaperVote();
        CHECK.dueTrouble(x, "image()", x.image(), -1, 1);
        CHECK.due("IMAGES", x.size(11), 0);
    }

    @Says("IMAGES: up to 3")
    static void promise50_noRoomForAFourth() {
        PaperVote x = Check.told(HALL);
        for (int i = 0; i < 3; i++) {
            x.sit(0, i == 1 ? 0 : i + 2);
            CHECK.dueTrouble(x, "image()", x.image(), i, 0);
            CHECK.due("IMAGES", x.size(11), i + 1);
        }
        x.sit(0, 1);
        String before = Check.stateOf(x);
        CHECK.dueRefused(x, "image()", before, x.image(), 3);
        CHECK.dueRefused(x, "image() again", before, x.image(), 3);
        int[] seats = {2, 0, 4};
        for (int i = 0; i < 3; i++) {
            x.back(i);
            CHECK.due("member(0, 1) as by IMAGE " + i, x.member(0, 1), seats[i]);
        }
    }

    @Says("IMAGES: up to 3")
    static void promise50_roomAgainInANewHall() {
        PaperVote x = Check.told(EMPTY);
        for (int i = 0; i < 4; i++) {
            x.image();
        }
        Check.tell(x, HALL);
        CHECK.due("IMAGES", x.size(11), 0);
        CHECK.dueTrouble(x, "image()", x.image(), 0, 0);
    }

    @Says("An IMAGE: its number. NONE: 1 (no HALL); 3.")
    static void promise50_noAct() {
        PaperVote x = used();
        x.image();
        CHECK.due("ACTS that can be undone", x.size(10), 2);
    }

    // ---- promise 51

    @Says("All is as by an IMAGE (all IMAGES stay): true; false: 1.")
    static void promise51_noSuchImage() {
        PaperVote x = used();
        String before = Check.stateOf(x);
        CHECK.dueRefused(x, "back(-1)", before, x.back(-1), 1);
        CHECK.dueRefused(x, "back(1)", before, x.back(1), 1);
        CHECK.dueRefused(x, "back(3)", before, x.back(3), 1);
        CHECK.dueRefused(x, "back(MAX)", before, x.back(Integer.MAX_VALUE), 1);
        CHECK.dueRefused(x, "back(MIN)", before, x.back(Integer.MIN_VALUE), 1);
    }

    @Says("All is as by an IMAGE (all IMAGES stay): true; false: 1.")
    static void promise51_noHallOrNoImage() {
        PaperVote x = new PaperVote();
        CHECK.dueTrouble(x, "back(0)", x.back(0), false, 1);
        PaperVote y = Check.told(HALL);
        CHECK.dueTrouble(y, "back(0)", y.back(0), false, 1);
    }

    @Says("All is as by an IMAGE (all IMAGES stay): true; false: 1.")
    static void promise51_allIsAsByIt() {
        PaperVote x = Check.told(HALL);
        x.seed(5);
        x.session();
        x.image();
        String then = Check.stateOf(x);
        x.undo();
        x.seed(9);
        x.sit(0, 4);
        x.fold(0, 2);
        x.aim(1, 1);
        x.warm(2, 5);
        x.stand(1, 1, 1);
        x.session();
        x.session();
        CHECK.dueTrouble(x, "back(0)", x.back(0), true, 0);
        CHECK.due("ACTS that can be undone", x.size(10), 0);
        CHECK.dueSame(x, "back(0)", then.replaceFirst("^(sizes(?: -?\\d+){10}) 1", "$1 0"));
    }

    @Says("gone back to one, nothing can be undone")
    static void promise51_nothingCanBeUndone() {
        PaperVote x = Check.told(HALL);
        x.sit(0, 0);
        x.sit(0, 2);
        x.image();
        x.sit(0, 3);
        CHECK.due("back(0)", x.back(0), true);
        CHECK.due("ACTS that can be undone", x.size(10), 0);
        CHECK.dueTrouble(x, "undo()", x.undo(), false, 6);
        CHECK.due("member(0, 1)", x.member(0, 1), 2);
        x.sit(0, 4);
        CHECK.dueTrouble(x, "undo() of what came then", x.undo(), true, 0);
        CHECK.due("member(0, 1)", x.member(0, 1), 2);
    }

    @Says("All is as by an IMAGE (all IMAGES stay): true; false: 1.")
    static void promise51_allImagesStay() {
        PaperVote x = Check.told(HALL);
        x.image();
        x.sit(0, 4);
        x.image();
        x.back(0);
        CHECK.due("IMAGES", x.size(11), 2);
        x.sit(0, 3);
        CHECK.dueTrouble(x, "back(0) again", x.back(0), true, 0);
        CHECK.due("member(0, 1)", x.member(0, 1), 1);
        CHECK.dueTrouble(x, "back(1), the later one", x.back(1), true, 0);
        CHECK.due("member(0, 1)", x.member(0, 1), 4);
        CHECK.dueTrouble(x, "image()", x.image(), 2, 0);
    }
}
