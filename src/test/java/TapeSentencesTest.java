/** Sentences of promises 1 to 3 that name a boundary case: a new object, THE TAPE, the HALL. */
public final class TapeSentencesTest {
    private static final String SMALL = "hall long 3 rows 1 nose 0;speaker s at 0 1";
    private static final String OTHER = "hall long 4 rows 2 nose 1;fog 2;speaker s at 3 2;speaker t at 0 1;"
            + "member m plain seat 1 far 1 sharp 0 errs 0";
    private static final int BLANKS = 0x20202020;
    private static final Check CHECK = new Check();

    public static void main(String[] args) throws Exception {
        Sentences.run(TapeSentencesTest.class, CHECK);
    }

    private static int feedBlanks(PaperVote x) {
        return x.feed(BLANKS, BLANKS, BLANKS, BLANKS, BLANKS);
    }

    /** A HALL in which something can be undone, a session was held, and an IMAGE is. */
    private static PaperVote used() {
        PaperVote x = Check.told(OTHER);
        x.seed(5);
        x.session();
        x.sit(0, 2);
        x.image();
        return x;
    }

    // ---- promise 1

    @Says("`PaperVote()`: No HALL.")
    static void promise1_thereIsNothing() {
        PaperVote x = new PaperVote();
        for (int what = 0; what <= 12; what++) {
            CHECK.due("size(" + what + ")", x.size(what), 0);
        }
    }

    @Says("`PaperVote()`: No HALL.")
    static void promise1_nothingWasRefusedYet() {
        PaperVote x = new PaperVote();
        CHECK.due("trouble()", x.trouble(), 0);
        CHECK.due("fault()", x.fault(), 0);
        CHECK.due("where()", x.where(), -1);
    }

    @Says("`PaperVote()`: No HALL.")
    static void promise1_aNewOneHasNothingOfAnOlder() {
        PaperVote old = used();
        feedBlanks(old);
        old.air(0);
        PaperVote x = new PaperVote();
        CHECK.due("trouble()", x.trouble(), 0);
        CHECK.dueTrouble(x, "winner()", x.winner(), -1, 1);
        CHECK.due("size(12)", x.size(12), 0);
        CHECK.due("the older one's speakers", old.size(3), 2);
    }

    @Says("`NONE = -1`: There is none; refused.")
    static void promise1_none() {
        CHECK.due("NONE", PaperVote.NONE, -1);
    }

    // ---- promise 2

    @Says("of each number the highest first")
    static void promise2_theHighestByteComesFirst() {
        PaperVote x = new PaperVote();
        // "hall", " lon", "g 2 "
        x.feed(0x68616c6c, 0x206c6f6e, 0x67203220, BLANKS, BLANKS);
        CHECK.dueTrouble(x, "hall(20)", x.hall(20), -1, 4);
        CHECK.due("fault()", x.fault(), 4);
        CHECK.due("where()", x.where(), 10);
    }

    @Says("of each number the highest first")
    static void promise2_theNumbersComeInTheirOrder() {
        for (int i = 0; i < 5; i++) {
            PaperVote x = new PaperVote();
            int[] n = {BLANKS, BLANKS, BLANKS, BLANKS, BLANKS};
            n[i] = 0x20203f20;
            x.feed(n[0], n[1], n[2], n[3], n[4]);
            x.hall(20);
            CHECK.due("where() of a byte in number " + i, x.where(), 4 * i + 2);
        }
    }

    @Says("Twenty bytes come behind THE TAPE")
    static void promise2_aBelowZeroNumberIsFourBytesToo() {
        PaperVote x = new PaperVote();
        CHECK.due("feed", x.feed(-1, Integer.MIN_VALUE, -2, Integer.MAX_VALUE, 0), 20);
        CHECK.dueTrouble(x, "hall(20)", x.hall(20), -1, 4);
        CHECK.due("fault()", x.fault(), 1);
        CHECK.due("where()", x.where(), 0);
    }

    @Says("Twenty bytes come behind THE TAPE")
    static void promise2_theyComeBehindWhatIsThere() {
        PaperVote x = new PaperVote();
        feedBlanks(x);
        x.feed(BLANKS, BLANKS, BLANKS, BLANKS, 0x2020203f);
        feedBlanks(x);
        x.hall(60);
        CHECK.due("where()", x.where(), 39);
    }

    @Says("how many it has; NONE, and none comes, if there would be more than 900.")
    static void promise2_howManyItHasUpTo900() {
        PaperVote x = new PaperVote();
        for (int i = 1; i <= 45; i++) {
            CHECK.due("feed", feedBlanks(x), 20 * i);
            CHECK.due("size(12)", x.size(12), 20 * i);
        }
    }

    @Says("how many it has; NONE, and none comes, if there would be more than 900.")
    static void promise2_noneComesBeyond900() {
        PaperVote x = new PaperVote();
        for (int i = 1; i <= 44; i++) {
            feedBlanks(x);
        }
        CHECK.due("feed to 900", x.feed(0x68616c6c, 0x206c6f6e, 0x67203220, BLANKS, BLANKS), 900);
        for (int i = 0; i < 3; i++) {
            CHECK.due("feed beyond 900", x.feed(0x3f3f3f3f, 0x3f3f3f3f, 0x3f3f3f3f, 0x3f3f3f3f, 0x3f3f3f3f), -1);
            CHECK.due("size(12)", x.size(12), 900);
        }
        CHECK.dueTrouble(x, "hall(900)", x.hall(900), -1, 4);
        CHECK.due("fault(), of the bytes that came", x.fault(), 4);
        CHECK.due("where()", x.where(), 890);
    }

    @Says("how many it has; NONE, and none comes, if there would be more than 900.")
    static void promise2_thereIsRoomAgainBehindAHall() {
        PaperVote x = new PaperVote();
        for (int i = 1; i <= 45; i++) {
            feedBlanks(x);
        }
        x.hall(900);
        CHECK.due("feed", feedBlanks(x), 20);
    }

    @Says("TROUBLE of the latest call that may be refused (those of which a number is told here)")
    static void promise2_aFullTapeIsNoTrouble() {
        PaperVote x = new PaperVote();
        x.undo();
        for (int i = 1; i <= 46; i++) {
            feedBlanks(x);
            CHECK.due("trouble() of undo", x.trouble(), 6);
        }
    }

    // ---- promise 3

    @Says("NONE: 2 (THE TAPE stays)")
    static void promise3_fewerThanNone() {
        PaperVote x = used();
        Check.feedText(x, SMALL);
        String before = Check.stateOf(x);
        CHECK.dueRefused(x, "hall(-1)", before, x.hall(-1), 2);
        CHECK.dueRefused(x, "hall(MIN)", before, x.hall(Integer.MIN_VALUE), 2);
        CHECK.due("hall of what stayed", x.hall(SMALL.length()), 1);
    }

    @Says("NONE: 2 (THE TAPE stays)")
    static void promise3_moreThanTheTapeHas() {
        PaperVote x = used();
        Check.feedText(x, SMALL);
        String before = Check.stateOf(x);
        CHECK.dueRefused(x, "hall(61)", before, x.hall(61), 2);
        CHECK.dueRefused(x, "hall(901)", before, x.hall(901), 2);
        CHECK.dueRefused(x, "hall(MAX)", before, x.hall(Integer.MAX_VALUE), 2);
        CHECK.due("hall of what stayed", x.hall(60), 1);
    }

    @Says("NONE: 2 (THE TAPE stays)")
    static void promise3_moreThanAnEmptyTapeHas() {
        PaperVote x = new PaperVote();
        CHECK.dueTrouble(x, "hall(1)", x.hall(1), -1, 2);
        Check.tell(x, SMALL);
        CHECK.dueTrouble(x, "hall(1) behind a HALL", x.hall(1), -1, 2);
        CHECK.due("the HALL stays", x.size(0), 3);
    }

    @Says("The first n bytes of THE TAPE (it is empty then)")
    static void promise3_allBytesOfAFullTape() {
        PaperVote x = new PaperVote();
        StringBuilder text = new StringBuilder(SMALL);
        while (text.length() < 899) {
            text.insert(0, ' ');
        }
        CHECK.dueTrouble(x, "hall(900)", Check.tell(x, text + " "), 1, 0);
        text.append('?');
        CHECK.dueTrouble(x, "hall(900), the last byte is read", Check.tell(x, text.toString()), -1, 4);
        CHECK.due("where()", x.where(), 899);
    }

    @Says("The first n bytes of THE TAPE (it is empty then)")
    static void promise3_onlyTheFirstBytes() {
        PaperVote x = new PaperVote();
        Check.feedText(x, SMALL + "?");
        CHECK.dueTrouble(x, "hall(42)", x.hall(42), 1, 0);
        CHECK.due("size(12), the rest is gone too", x.size(12), 0);
        Check.feedText(x, "hall long 12");
        CHECK.dueTrouble(x, "hall(11), a WHOLE is cut there", x.hall(11), -1, 4);
        CHECK.due("fault()", x.fault(), 4);
        CHECK.due("size(12), the rest is gone too", x.size(12), 0);
    }

    @Says("The first n bytes of THE TAPE (it is empty then)")
    static void promise3_whatWasThereAheadIsNotRead() {
        PaperVote x = new PaperVote();
        Check.tell(x, SMALL + ";lamp 1 1;lamp 2 1");
        Check.feedText(x, "hall long 3");
        CHECK.dueTrouble(x, "hall(20)", x.hall(20), -1, 4);
        CHECK.due("fault()", x.fault(), 1);
        CHECK.due("where(), the end", x.where(), 20);
    }

    @Says("The first n bytes of THE TAPE (it is empty then)")
    static void promise3_noBytes() {
        PaperVote x = used();
        Check.feedText(x, SMALL);
        CHECK.dueTrouble(x, "hall(0)", x.hall(0), -1, 4);
        CHECK.due("fault()", x.fault(), 1);
        CHECK.due("where()", x.where(), 0);
        CHECK.due("size(12)", x.size(12), 0);
        CHECK.due("the HALL stays", x.size(0), 4);
        CHECK.dueTrouble(x, "hall(0) of an empty TAPE", x.hall(0), -1, 4);
    }

    @Says("The first n bytes of THE TAPE (it is empty then)")
    static void promise3_noBytesThoughABlankIsThere() {
        PaperVote x = new PaperVote();
        Check.feedText(x, "  " + SMALL);
        CHECK.dueTrouble(x, "hall(0)", x.hall(0), -1, 4);
        CHECK.due("where()", x.where(), 0);
    }

    @Says("The first n bytes of THE TAPE (it is empty then)")
    static void promise3_aWordCutByTheirEnd() {
        PaperVote x = new PaperVote();
        Check.feedText(x, "hall long 3");
        CHECK.dueTrouble(x, "hall(8)", x.hall(8), -1, 4);
        CHECK.due("fault()", x.fault(), 1);
        CHECK.due("where(), at lon", x.where(), 5);
        Check.feedText(x, SMALL + "ss");
        CHECK.due("hall(42)", x.hall(42), 1);
    }

    @Says("(SEED 0, no sessions; nothing to undo, no IMAGES): how many speakers.")
    static void promise3_aNewHallHasNothingOfTheOld() {
        PaperVote x = used();
        CHECK.dueTrouble(x, "hall", Check.tell(x, OTHER), 2, 0);
        int[] due = {4, 2, 1, 2, 1, 0, 0, 1, 0, 0, 0, 0, 0};
        for (int what = 0; what <= 12; what++) {
            CHECK.due("size(" + what + ")", x.size(what), due[what]);
        }
        CHECK.due("speaker(1, 2)", x.speaker(1, 2), 0);
        CHECK.due("member(0, 1)", x.member(0, 1), 1);
        CHECK.dueTrouble(x, "undo()", x.undo(), false, 6);
        CHECK.dueTrouble(x, "back(0)", x.back(0), false, 1);
    }

    @Says("(SEED 0, no sessions; nothing to undo, no IMAGES): how many speakers.")
    static void promise3_aSmallerHallBehindAFullOne() {
        PaperVote x = Check.told("hall long 12 rows 6 nose 9;air 1 left 3;fog 2;air 6 right 3;speaker a at 0 1;"
                + "speaker b at 1 1;lamp 2 1;lamp 3 1;member c loop seat 3 far 6 sharp 9 errs 9;"
                + "flight 0 far 6 lands 1");
        CHECK.due("hall", Check.tell(x, SMALL), 1);
        int[] due = {3, 1, 0, 1, 0, 0, 0, 0, 0, 0, 0, 0, 0};
        for (int what = 0; what <= 12; what++) {
            CHECK.due("size(" + what + ")", x.size(what), due[what]);
        }
        CHECK.due("air(1), not told of now", x.air(1), 3);
        CHECK.due("lamp(2, 1)", x.lamp(2, 1), 0);
        CHECK.dueTrouble(x, "member(0, 0)", x.member(0, 0), -1, 1);
        CHECK.dueTrouble(x, "speaker(1, 0)", x.speaker(1, 0), -1, 1);
    }

    @Says("(SEED 0, no sessions; nothing to undo, no IMAGES): how many speakers.")
    static void promise3_fullAndEmptyHallsInTurn() {
        String full = "hall long 12 rows 6 nose 9;air 1 left 3;air 2 left 2;fog 4;fog 5;fog 6;speaker a at 0 1;"
                + "speaker b at 1 1;speaker c at 2 1;speaker d at 3 1;lamp 4 1;lamp 5 1;lamp 6 1";
        for (char m = 'e'; m < 'k'; m++) {
            full += ";member " + m + " loop seat 3 far 6 sharp 9 errs 9";
        }
        for (int f = 0; f < 5; f++) {
            full += ";flight 0 far 6 lands 1";
        }
        PaperVote x = new PaperVote();
        for (int i = 0; i < 3; i++) {
            CHECK.dueTrouble(x, "hall", Check.tell(x, full), 4, 0);
            int[] due = {12, 6, 9, 4, 6, 3, 5, 3, 0, 0, 0, 0, 0};
            for (int what = 0; what <= 12; what++) {
                CHECK.due("size(" + what + ") of the full one", x.size(what), due[what]);
            }
            x.session();
            CHECK.dueTrouble(x, "hall", Check.tell(x, SMALL), 1, 0);
            CHECK.due("state of the small one", Check.stateOf(x).equals(Check.stateOf(Check.told(SMALL))), true);
            x.session();
        }
    }

    @Says("(SEED 0, no sessions; nothing to undo, no IMAGES): how many speakers.")
    static void promise3_nothingOfAFaultyText() {
        PaperVote x = new PaperVote();
        for (int i = 0; i < 2; i++) {
            Check.tell(x, "hall long 12 rows 6 nose 9;air 1 left 3;fog 2;fog 3;fog 4;air 6 right 1;"
                    + "speaker s at 0 1;speaker b at 1 1;lamp 2 1;lamp 0 2;"
                    + "member m loop seat 3 far 6 sharp 9 errs 9;flight 0 far 6 lands 1;?");
            CHECK.dueTrouble(x, "hall behind a FAULT", Check.tell(x, SMALL), 1, 0);
            CHECK.due("its state", Check.stateOf(x).equals(Check.stateOf(Check.told(SMALL))), true);
            CHECK.due("lamp(2, 1)", x.lamp(2, 1), 0);
            CHECK.due("judge(), no flight", x.judge(), -2);
        }
    }

    @Says("(SEED 0, no sessions; nothing to undo, no IMAGES): how many speakers.")
    static void promise3_howManySpeakers() {
        PaperVote x = new PaperVote();
        String text = "hall long 4 rows 1 nose 0";
        for (int s = 0; s < 4; s++) {
            text += ";speaker " + (char) ('a' + s) + " at " + s + " 1";
            CHECK.dueTrouble(x, "hall", Check.tell(x, text), s + 1, 0);
        }
    }

    @Says("4 (the HALL stays)")
    static void promise3_aFaultLeavesTheHall() {
        String[] faulty = {"?", "hall long 5 rows 6 nose 9;air 1 left 3;speaker x at 4 1;lamp 0 1;lamp 0 1",
            "hall long 12 rows 6 nose 9", "hall long 3 rows 1 nose 0;speaker s at 0 1;fog 1;fog 1"};
        PaperVote x = used();
        String before = Check.stateOf(x);
        for (String text : faulty) {
            CHECK.dueRefused(x, "hall of " + text, before, Check.tell(x, text), 4);
        }
        CHECK.due("undo()", x.undo(), true);
        CHECK.due("member(0, 1), as ahead of the latest ACT", x.member(0, 1), 1);
        CHECK.due("back(0)", x.back(0), true);
        CHECK.due("member(0, 1), as by the IMAGE", x.member(0, 1), 2);
    }

    @Says("4 (the HALL stays)")
    static void promise3_aFaultLeavesNoHallIfThereIsNone() {
        PaperVote x = new PaperVote();
        CHECK.dueTrouble(x, "hall", Check.tell(x, "hall long 3 rows 1 nose 0;speaker s at 0 1;"), -1, 4);
        for (int what = 0; what <= 12; what++) {
            CHECK.due("size(" + what + ")", x.size(what), 0);
        }
        CHECK.dueTrouble(x, "winner()", x.winner(), -1, 1);
        CHECK.dueTrouble(x, "speaker(0, 0)", x.speaker(0, 0), -1, 1);
    }
}
