/** Sentences of promises 52 to 54 (led, size, TROUBLE) that name a boundary case. */
public final class ToldSentencesTest {
    private static final String EMPTY = "hall long 3 rows 1 nose 0;speaker s at 0 1";
    private static final String HALL = "hall long 5 rows 3 nose 5;fog 2;speaker a at 0 1;speaker b at 4 3;"
            + "member m flat seat 4 far 2 sharp 0 errs 0;member n flat seat 0 far 2 sharp 9 errs 0;"
            + "member o flat seat 0 far 2 sharp 0 errs 0;member p flat seat 1 far 2 sharp 0 errs 0";
    private static final Check CHECK = new Check();

    public static void main(String[] args) throws Exception {
        Sentences.run(ToldSentencesTest.class, CHECK);
    }

    // ---- promise 52

    @Says("NoSuchElementException if there is none such.")
    static void promise52_noHallNoMemberNoWinner() {
        CHECK.dueNoLed(new PaperVote(), 0);
        CHECK.dueNoLed(Check.told(EMPTY), 0);
        CHECK.dueNoLed(Check.told(EMPTY + ";member m flat seat 0 far 1 sharp 1 errs 0"), 0);
        CHECK.dueNoLed(Check.told(EMPTY + ";lamp 1 1;member m flat seat 1 far 1 sharp 0 errs 0"), 0);
    }

    @Says("NoSuchElementException if there is none such.")
    static void promise52_tooSmallOrTooLarge() {
        PaperVote x = Check.told(HALL);
        for (int i : new int[] {-1, 2, 3, 4, Integer.MIN_VALUE, Integer.MAX_VALUE}) {
            CHECK.dueNoLed(x, i);
        }
    }

    @Says("The i-th member, by numbers, whose dart is FOR the WINNER and COUNTS, without errors.")
    static void promise52_byNumbers() {
        PaperVote x = Check.told(HALL);
        CHECK.due("winner()", x.winner(), 0);
        CHECK.due("led(0), not the too sharp one", x.led(0), 2);
        CHECK.due("led(1)", x.led(1), 3);
    }

    @Says("The i-th member, by numbers, whose dart is FOR the WINNER and COUNTS, without errors.")
    static void promise52_allSix() {
        String text = EMPTY;
        for (char m = 'a'; m < 'g'; m++) {
            text += ";member " + m + " flat seat 1 far 1 sharp 0 errs 100";
        }
        PaperVote x = Check.told(text);
        for (int i = 0; i < 6; i++) {
            CHECK.due("led(" + i + ")", x.led(i), i);
        }
        CHECK.dueNoLed(x, 6);
    }

    @Says("NoSuchElementException if there is none such.")
    static void promise52_nothingChangesByIt() {
        PaperVote x = Check.told(HALL);
        String before = Check.stateOf(x);
        x.undo();
        CHECK.dueNoLed(x, 9);
        x.led(0);
        CHECK.due("trouble() of undo", x.trouble(), 6);
        CHECK.dueSame(x, "led", before);
    }

    // ---- promise 53

    @Says("NONE for others; 0 for what there isn't.")
    static void promise53_others() {
        PaperVote x = Check.told(HALL);
        PaperVote y = new PaperVote();
        for (int what : new int[] {-1, 13, Integer.MIN_VALUE, Integer.MAX_VALUE}) {
            CHECK.due("size(" + what + ")", x.size(what), -1);
            CHECK.due("size(" + what + ") without a HALL", y.size(what), -1);
        }
        CHECK.due("trouble()", x.trouble(), 0);
    }

    @Says("NONE for others; 0 for what there isn't.")
    static void promise53_whatThereIsNot() {
        PaperVote x = new PaperVote();
        for (int what = 0; what <= 12; what++) {
            CHECK.due("size(" + what + ") without a HALL", x.size(what), 0);
        }
        PaperVote y = Check.told(EMPTY);
        int[] due = {3, 1, 0, 1, 0, 0, 0, 0, 0, 0, 0, 0, 0};
        for (int what = 0; what <= 12; what++) {
            CHECK.due("size(" + what + ")", y.size(what), due[what]);
        }
    }

    @Says("7 rows not known NOW, 8 sessions held, 9 SEED, 10 ACTS that can be undone, 11 IMAGES, 12 bytes of "
            + "THE TAPE.")
    static void promise53_eachByItself() {
        PaperVote x = Check.told(HALL);
        x.seed(0);
        int[] due = {5, 3, 5, 2, 4, 0, 0, 1, 0, 0, 0, 0, 0};
        x.warm(2, 0);
        due[7] = 0;
        due[10] = 1;
        dueSizes(x, due);
        x.session();
        due[8] = 1;
        due[9] = x.size(9);
        due[10] = 2;
        dueSizes(x, due);
        x.image();
        due[11] = 1;
        dueSizes(x, due);
        x.feed(0, 0, 0, 0, 0);
        due[12] = 20;
        dueSizes(x, due);
        x.undo();
        due[8] = 0;
        due[9] = 0;
        due[10] = 1;
        dueSizes(x, due);
        x.undo();
        due[7] = 1;
        due[10] = 0;
        dueSizes(x, due);
    }

    private static void dueSizes(PaperVote x, int[] due) {
        for (int what = 0; what <= 12; what++) {
            CHECK.due("size(" + what + ")", x.size(what), due[what]);
        }
    }

    // ---- promise 54

    @Says("TROUBLE of the latest call that may be refused (those of which a number is told here): 0 it wasn't")
    static void promise54_zeroIfItWasNot() {
        PaperVote x = Check.told(HALL);
        x.undo();
        x.winner();
        CHECK.due("trouble()", x.trouble(), 0);
        x.undo();
        x.sit(0, 0);
        CHECK.due("trouble()", x.trouble(), 0);
        x.image();
        x.image();
        x.image();
        x.image();
        CHECK.due("trouble()", x.trouble(), 3);
        x.undo();
        CHECK.due("trouble()", x.trouble(), 0);
    }

    @Says("1 there is none such; 2 a number; 3 no room; 4 a FAULT; 5 not so; 6 there is none.")
    static void promise54_eachNumber() {
        PaperVote x = Check.told(EMPTY);
        x.air(0);
        CHECK.due("trouble(), none such", x.trouble(), 1);
        x.seed(-1);
        CHECK.due("trouble(), a number", x.trouble(), 2);
        for (int i = 0; i < 4; i++) {
            x.image();
        }
        CHECK.due("trouble(), no room", x.trouble(), 3);
        Check.tell(x, "?");
        CHECK.due("trouble(), a FAULT", x.trouble(), 4);
        x.stand(0, 0, 1);
        CHECK.due("trouble(), not so", x.trouble(), 5);
        x.toThrow();
        CHECK.due("trouble(), there is none", x.trouble(), 6);
    }

    @Says("TROUBLE of the latest call that may be refused (those of which a number is told here)")
    static void promise54_callsOfWhichNoNumberIsTold() {
        PaperVote x = Check.told(HALL);
        x.air(0);
        for (int i = 0; i < 46; i++) {
            x.feed(0, 0, 0, 0, 0);
            CHECK.due("trouble() behind feed", x.trouble(), 1);
        }
        x.fault();
        CHECK.due("trouble() behind fault", x.trouble(), 1);
        x.where();
        CHECK.due("trouble() behind where", x.trouble(), 1);
        x.size(13);
        x.size(0);
        CHECK.due("trouble() behind size", x.trouble(), 1);
        x.led(0);
        CHECK.dueNoLed(x, 99);
        CHECK.due("trouble() behind led", x.trouble(), 1);
        CHECK.due("trouble() behind trouble", x.trouble(), 1);
    }

    @Says("TROUBLE of the latest call that may be refused (those of which a number is told here)")
    static void promise54_everyOtherCallEndsIt() {
        for (int call = 0; call < 47; call++) {
            PaperVote x = Check.told(HALL);
            x.image();
            x.sit(0, 0);
            Check.feedText(x, EMPTY);
            x.seed(-1);
            CHECK.due("trouble()", x.trouble(), 2);
            good(x, call);
            CHECK.due("trouble() behind call " + call, x.trouble(), 0);
        }
    }

    /** A call by its number that isn't refused, of those that may be. */
    private static void good(PaperVote x, int call) {
        switch (call) {
            case 0 -> x.hall(42);
            case 1 -> x.speaker(0, 3);
            case 2 -> x.member(0, 0);
            case 3 -> x.air(1);
            case 4 -> x.lamp(0, 1);
            case 5 -> x.lands(0);
            case 6 -> x.votes(0);
            case 7 -> x.nearest(0, 1);
            case 8 -> x.winner();
            case 9 -> x.counted();
            case 10 -> x.hang();
            case 11 -> x.thickest();
            case 12 -> x.likely(0, 0, true);
            case 13 -> x.wins(0, true);
            case 14 -> x.just(0, 0, true);
            case 15 -> x.mean(0, true);
            case 16 -> x.favourite();
            case 17 -> x.bestFold(0, 0);
            case 18 -> x.bestLikely(0, 0, true);
            case 19 -> x.bestSeat(0, 0);
            case 20 -> x.place(0);
            case 21 -> x.placeVotes(0);
            case 22 -> x.game(0, 0, 1, 0, true);
            case 23 -> x.rests(0, 1);
            case 24 -> x.rest(0, 1);
            case 25 -> x.airs();
            case 26 -> x.could(2);
            case 27 -> x.surely(2);
            case 28 -> x.toThrow();
            case 29 -> x.throwLeaves();
            case 30 -> x.judge();
            case 31 -> x.power(0);
            case 32 -> x.mighty();
            case 33 -> x.rake();
            case 34 -> x.sessions(0, 0, 1);
            case 35 -> x.darts(0, 1);
            case 36 -> x.lucky(0, 0, 1);
            case 37 -> x.sit(1, 1);
            case 38 -> x.fold(1, 1);
            case 39 -> x.aim(1, 1);
            case 40 -> x.warm(1, 1);
            case 41 -> x.stand(0, 1, 1);
            case 42 -> x.session();
            case 43 -> x.seed(1);
            case 44 -> x.undo();
            case 45 -> x.image();
            default -> x.back(0);
        }
    }

    @Says("Nothing is promised beyond the answers and state changes described above")
    static void promise54_callsThatOnlyTellChangeNothing() {
        PaperVote x = Check.told(HALL);
        x.seed(7);
        x.session();
        x.image();
        x.sit(0, 2);
        String before = Check.stateOf(x);
        for (int call = 1; call <= 36; call++) {
            good(x, call);
        }
        CHECK.dueSame(x, "calls that only tell", before);
    }
}
