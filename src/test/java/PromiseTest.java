/** Each promise of the document by number, with answers worked out by hand. */
public final class PromiseTest {
    // m lands at column 2 of row 1, n at 3 of 2, o (too sharp) at 2 of 1; m's errors: 1 of 1, a lamp.
    private static final String TWO = "hall long 5 rows 3 nose 5;air 1 right 1;air 2 left 3;"
            + "speaker ann at 0 1;speaker bob at 4 3;"
            + "member m plain seat 1 far 1 sharp 5 errs 40;"
            + "member n stable seat 4 far 2 sharp 0 errs 0;"
            + "member o flat seat 2 far 3 sharp 6 errs 0;lamp 3 1";
    private static final String EMPTY = "hall long 3 rows 1 nose 0;speaker s at 0 1";
    private static final String FOGGY = "hall long 12 rows 3 nose 9;air 1 right 1;fog 2;fog 3;"
            + "speaker s at 0 1;flight 4 far 2 lands 6;flight 9 far 3 lands 11";
    private static final String NO_AIRS = "hall long 3 rows 1 nose 0;fog 1;speaker s at 0 1;"
            + "flight 0 far 1 lands 0;flight 0 far 1 lands 2";
    // By SEED 0 the draws mod 200 are 74, 24, 52, 190, 41: b, a, b, the lamp, a.
    private static final String DRAWN = "hall long 5 rows 1 nose 9;speaker a at 0 1;speaker b at 4 1;"
            + "lamp 2 1;member m plain seat 2 far 1 sharp 0 errs 50";
    private static final String HALL = "hall long 5 rows 3 nose 1;";
    private static final String SPEAKER = HALL + "speaker s at 0 1";

    private static final Check CHECK = new Check();

    public static void main(String[] args) {
        newObject();
        tapeAndHall();
        faultsOfForm();
        faultsOfSense();
        manyAndLacks();
        faultAndWhere();
        speakersMembersAirs();
        flightsOfDarts();
        votesAndWinner();
        odds();
        folds();
        placesAndGames();
        airsByFlights();
        powerAndRake();
        sessions();
        acts();
        undoing();
        images();
        ledAndSize();
        troubles();
        CHECK.finish();
    }

    private static void newObject() {
        CHECK.about("promise 1");
        PaperVote x = new PaperVote();
        for (int what = 0; what <= 12; what++) {
            CHECK.due("size(" + what + ")", x.size(what), 0);
        }
        CHECK.due("trouble()", x.trouble(), 0);
        CHECK.due("fault()", x.fault(), 0);
        CHECK.due("where()", x.where(), -1);
        CHECK.dueTrouble(x, "winner()", x.winner(), -1, 1);
        CHECK.dueTrouble(x, "back(0)", x.back(0), false, 1);
        CHECK.due("NONE", PaperVote.NONE, -1);
    }

    private static void tapeAndHall() {
        CHECK.about("promises 2, 3");
        PaperVote x = new PaperVote();
        for (int i = 1; i <= 45; i++) {
            CHECK.due("feed", x.feed(0x20202020, 0x20202020, 0x20202020, 0x20202020, 0x20202020), 20 * i);
        }
        CHECK.due("feed beyond 900", x.feed(0, 0, 0, 0, 0), -1);
        CHECK.due("size(12)", x.size(12), 900);
        CHECK.due("trouble() by feed", x.trouble(), 0);
        CHECK.dueTrouble(x, "hall(901)", x.hall(901), -1, 2);
        CHECK.dueTrouble(x, "hall(-1)", x.hall(-1), -1, 2);
        CHECK.due("size(12), the tape stays", x.size(12), 900);
        CHECK.dueTrouble(x, "hall(900) of blanks", x.hall(900), -1, 4);
        CHECK.due("fault()", x.fault(), 1);
        CHECK.due("where()", x.where(), 900);
        CHECK.due("size(12), the tape is empty", x.size(12), 0);
        Check.feedText(x, "hall long 3 rows 1 nose 0;speaker s at 0 1  garbage that is not read");
        CHECK.dueTrouble(x, "hall(42)", x.hall(42), 1, 0);
        CHECK.due("size(12) behind a hall", x.size(12), 0);
        x.sit(0, 0);
        x.stand(0, 1, 1);
        x.seed(9);
        x.session();
        x.image();
        CHECK.due("size(10)", x.size(10), 2);
        CHECK.dueTrouble(x, "hall(0)", x.hall(0), -1, 4);
        CHECK.due("the hall stays", x.speaker(0, 0), 1);
        CHECK.due("what can be undone stays", x.size(10), 2);
        CHECK.due("images stay", x.size(11), 1);
        CHECK.due("hall", Check.tell(x, TWO), 2);
        CHECK.due("SEED", x.size(9), 0);
        CHECK.due("sessions", x.size(8), 0);
        CHECK.due("to undo", x.size(10), 0);
        CHECK.due("images", x.size(11), 0);
        CHECK.due("undo()", x.undo(), false);
        CHECK.due("hall without blanks",
                Check.tell(x, "hall long3rows1nose0;speaker  plain at2 001 ; lamp 0 1;member zz flat seat 9"
                .replace("9", "0far 1sharp0errs 100")), 1);
        CHECK.due("speaker(0, 0)", x.speaker(0, 0), 2);
    }

    private static void fault(String text, int fault, int place) {
        PaperVote x = new PaperVote();
        CHECK.about("text " + text);
        CHECK.dueTrouble(x, "hall", Check.tell(x, text), -1, 4);
        CHECK.due("fault()", x.fault(), fault);
        CHECK.due("where()", x.where(), place);
    }

    private static void faultsOfForm() {
        fault("", 1, 0);
        fault("   ", 1, 3);
        fault(";", 1, 0);
        fault("Hall", 1, 0);
        fault("halls", 1, 0);
        fault("7", 1, 0);
        fault("hall long 5", 1, 11);
        fault("hall long 5  ", 1, 13);
        fault("hall 5", 1, 5);
        fault("hall long x", 1, 10);
        fault("hall long 0005", 1, 10);
        fault("hall long 5\trows", 1, 11);
        fault(HALL, 1, 26);
        fault(HALL + ";", 1, 26);
        fault("hall long 5 rows 3 nose 1 speaker", 1, 26);
        fault(HALL + "speaker hall", 1, 34);
        fault(HALL + "speaker air", 1, 34);
        fault(HALL + "speaker speaker", 1, 34);
        fault(HALL + "speaker member", 1, 34);
        fault(HALL + "speaker lamp", 1, 34);
        fault(HALL + "speaker flight", 1, 34);
        fault(HALL + "speaker abcdefghi at 0 1", 1, 34);
        fault(HALL + "speaker 5", 1, 34);
        fault(HALL + "air 1 up 2", 1, 32);
        fault(HALL + "air 1 left;", 1, 36);
        fault(SPEAKER + ";", 1, 43);
        fault(SPEAKER + "?", 1, 42);
        fault(SPEAKER + ";member m paper", 1, 52);
        fault(SPEAKER + ";member m{ flat", 1, 51);
        fault(SPEAKER + ";member `m flat", 1, 50);
        fault(SPEAKER + ";lamp 1: 1", 1, 49);
        fault(SPEAKER + ";lamp /1 1", 1, 48);
        fault(SPEAKER + ";lamp \u00e1 1", 1, 48);
        fault(SPEAKER + ";lamp 1", 1, 49);
        fault(SPEAKER + ";flight 1 far 1 land", 1, 58);
    }

    private static void faultsOfSense() {
        fault(HALL + "hall ?", 3, 26);
        fault(SPEAKER + ";member s ?", 3, 50);
        fault(SPEAKER + ";speaker s", 3, 51);
        fault(HALL + "speaker zazz at 0 1;member zazz", 3, 53);
        fault(HALL + "air 2 left 1;air 2", 3, 43);
        fault(HALL + "fog 2;fog 2", 3, 36);
        fault(HALL + "fog 2;air 002", 3, 36);
        fault(SPEAKER + ";lamp 0 1", 3, 50);
        fault(SPEAKER + ";speaker t at 0 1", 3, 58);
        fault(HALL + "lamp 0 1;lamp 0 1", 3, 42);
        fault(HALL + "lamp 0 1;speaker s at 0 1", 3, 50);
        fault("hall long 2 rows", 4, 10);
        fault("hall long 13", 4, 10);
        fault("hall long 12 rows 0", 4, 18);
        fault("hall long 12 rows 7", 4, 18);
        fault("hall long 12 rows 6 nose 10", 4, 25);
        fault(HALL + "air 0", 4, 30);
        fault(HALL + "fog 4", 4, 30);
        fault(HALL + "air 3 right 4", 4, 38);
        fault(HALL + "speaker s at 5", 4, 39);
        fault(HALL + "speaker s at 4 4", 4, 41);
        fault(HALL + "lamp 5", 4, 31);
        fault(HALL + "lamp 4 0", 4, 33);
        fault(SPEAKER + ";member m flat seat 5", 4, 62);
        fault(SPEAKER + ";member m flat seat 4 far 0", 4, 68);
        fault(SPEAKER + ";member m flat seat 4 far 3 sharp 10", 4, 76);
        fault(SPEAKER + ";member m flat seat 4 far 3 sharp 9 errs 101", 4, 83);
        fault(SPEAKER + ";flight 0 far 4", 4, 56);
        fault(SPEAKER + ";flight 0 far 3 lands 5", 4, 64);
    }

    private static void manyAndLacks() {
        fault("air 1 left 1", 6, 0);
        fault(" fog", 6, 1);
        fault("speaker", 6, 0);
        fault("member", 6, 0);
        fault("lamp", 6, 0);
        fault("flight", 6, 0);
        fault("hall long 5 rows 3 nose 1", 6, 25);
        fault("hall long 5 rows 3 nose 1  ", 6, 27);
        fault(HALL + "lamp 0 1", 6, 34);
        fault("hall long 5 rows 4 nose 1;fog 1;fog 2;fog 3;fog", 5, 44);
        String four = HALL + "speaker a at 0 1;speaker b at 1 1;speaker c at 2 1;speaker d at 3 1";
        fault(four + ";speaker a", 5, 94);
        fault(HALL + "lamp 0 1;lamp 1 1;lamp 2 1;lamp", 5, 53);
        String members = SPEAKER;
        for (char m = 'a'; m < 'g'; m++) {
            members += ";member " + m + " flat seat 0 far 1 sharp 0 errs 0";
        }
        fault(members + ";member ?", 5, members.length() + 1);
        String flights = SPEAKER;
        for (int f = 0; f < 5; f++) {
            flights += ";flight 0 far 1 lands 0";
        }
        fault(flights + ";flight", 5, flights.length() + 1);
        CHECK.about("as many as there is room for");
        CHECK.due("speakers", Check.told(four).size(3), 4);
        CHECK.due("members", Check.told(members).size(4), 6);
        CHECK.due("flights", Check.told(flights).size(6), 5);
        CHECK.due("lamps", Check.told(SPEAKER + ";lamp 1 1;lamp 2 1;lamp 3 1").size(5), 3);
        CHECK.due("fogs", Check.told(SPEAKER + ";fog 1;fog 2;fog 3").size(7), 3);
    }

    private static void faultAndWhere() {
        CHECK.about("promises 4, 5");
        PaperVote x = new PaperVote();
        Check.tell(x, "hall long 2");
        CHECK.due("fault()", x.fault(), 4);
        CHECK.due("where()", x.where(), 10);
        x.feed(0, 0, 0, 0, 0);
        x.size(0);
        x.trouble();
        CHECK.due("where() behind calls that are never refused", x.where(), 10);
        CHECK.dueTrouble(x, "hall(21)", x.hall(21), -1, 2);
        CHECK.due("fault() behind 2", x.fault(), 4);
        CHECK.due("where() behind 2", x.where(), -1);
        CHECK.due("hall", x.hall(20), -1);
        CHECK.due("fault()", x.fault(), 1);
        CHECK.due("where()", x.where(), 0);
        CHECK.due("hall", Check.tell(x, EMPTY), 1);
        CHECK.due("fault() of a hall without one", x.fault(), 0);
        CHECK.due("where()", x.where(), -1);
    }

    private static void speakersMembersAirs() {
        CHECK.about("promises 6 to 9");
        PaperVote x = Check.told(TWO);
        CHECK.due("speaker(1, 0)", x.speaker(1, 0), 4);
        CHECK.due("speaker(1, 1)", x.speaker(1, 1), 3);
        CHECK.due("speaker(1, 2)", x.speaker(1, 2), 0);
        CHECK.due("speaker(1, 3)", x.speaker(1, 3), 1);
        CHECK.dueTrouble(x, "speaker(0, 4)", x.speaker(0, 4), -1, 1);
        CHECK.dueTrouble(x, "speaker(0, -1)", x.speaker(0, -1), -1, 1);
        CHECK.dueTrouble(x, "speaker(2, 0)", x.speaker(2, 0), -1, 1);
        CHECK.dueTrouble(x, "speaker(-1, 0)", x.speaker(-1, 0), -1, 1);
        int[] due = {1, 4, 2, 0, 0, 1};
        for (int what = 0; what < due.length; what++) {
            CHECK.dueTrouble(x, "member(1, " + what + ")", x.member(1, what), due[what], 0);
        }
        CHECK.due("member(0, 3)", x.member(0, 3), 5);
        CHECK.due("member(0, 4)", x.member(0, 4), 40);
        CHECK.due("member(0, 5), as sharp as nose", x.member(0, 5), 1);
        CHECK.due("member(2, 5), sharper", x.member(2, 5), 0);
        CHECK.dueTrouble(x, "member(2, 6)", x.member(2, 6), -1, 1);
        CHECK.dueTrouble(x, "member(2, -1)", x.member(2, -1), -1, 1);
        CHECK.dueTrouble(x, "member(3, 0)", x.member(3, 0), -1, 1);
        CHECK.dueTrouble(x, "member(-1, 0)", x.member(-1, 0), -1, 1);
        CHECK.due("air(1)", x.air(1), 4);
        CHECK.due("air(2)", x.air(2), 0);
        CHECK.dueTrouble(x, "air(3)", x.air(3), 3, 0);
        CHECK.dueTrouble(x, "air(0)", x.air(0), -1, 1);
        CHECK.dueTrouble(x, "air(4)", x.air(4), -1, 1);
        CHECK.due("air(2) in fog", Check.told(FOGGY).air(2), 7);
        CHECK.dueTrouble(x, "lamp(3, 1)", x.lamp(3, 1), 1, 0);
        CHECK.due("lamp(3, 2)", x.lamp(3, 2), 0);
        CHECK.dueTrouble(x, "lamp(5, 1)", x.lamp(5, 1), -1, 1);
        CHECK.dueTrouble(x, "lamp(-1, 1)", x.lamp(-1, 1), -1, 1);
        CHECK.dueTrouble(x, "lamp(3, 0)", x.lamp(3, 0), -1, 1);
        CHECK.dueTrouble(x, "lamp(3, 4)", x.lamp(3, 4), -1, 1);
    }

    private static void flightsOfDarts() {
        CHECK.about("promise 10");
        PaperVote x = Check.told("hall long 12 rows 6 nose 9;air 1 right 3;air 2 left 3;air 3 right 2;"
                + "fog 4;air 5 left 1;air 6 right 1;speaker s at 0 1;"
                + "member a plain seat 5 far 6 sharp 0 errs 0;"
                + "member b stable seat 5 far 6 sharp 0 errs 0;"
                + "member c loop seat 5 far 6 sharp 0 errs 0;"
                + "member d flat seat 5 far 6 sharp 0 errs 0;"
                + "member e plain seat 11 far 2 sharp 0 errs 0;"
                + "member f flat seat 7 far 1 sharp 0 errs 0");
        CHECK.due("plain", x.lands(0), 76);
        CHECK.due("stable, to the left downwards too", x.lands(1), 66);
        CHECK.due("loop", x.lands(2), 46);
        CHECK.due("flat", x.lands(3), 53);
        CHECK.due("at the wall, then to the left", x.lands(4), 82);
        CHECK.due("flat, 1 at least", x.lands(5), 71);
        x.fold(4, 2);
        CHECK.due("loop of the same", x.lands(4), 32);
        x.sit(0, 1);
        x.aim(0, 2);
        CHECK.due("plain from 1 of 2 rows", x.lands(0), 12);
        x.warm(1, 0);
        CHECK.due("plain to the left wall", x.lands(0), 2);
        CHECK.dueTrouble(x, "lands(6)", x.lands(6), -1, 1);
        CHECK.dueTrouble(x, "lands(-1)", x.lands(-1), -1, 1);
    }

    private static void votesAndWinner() {
        CHECK.about("promises 11 to 16");
        PaperVote x = Check.told(TWO);
        CHECK.due("votes(0)", x.votes(0), 0);
        CHECK.due("votes(1)", x.votes(1), 1);
        CHECK.dueTrouble(x, "votes(2), too sharp", x.votes(2), -2, 0);
        CHECK.dueTrouble(x, "votes(3)", x.votes(3), -1, 1);
        CHECK.due("nearest(0, 3)", x.nearest(0, 3), 0);
        CHECK.due("nearest(1, 3), of like ones the first", x.nearest(1, 3), 0);
        CHECK.due("nearest(2, 3)", x.nearest(2, 3), 1);
        CHECK.due("nearest(3, 1), a lamp, of like ones the first", x.nearest(3, 1), 0);
        CHECK.due("nearest(4, 1)", x.nearest(4, 1), 1);
        CHECK.dueTrouble(x, "nearest(5, 1)", x.nearest(5, 1), -1, 1);
        CHECK.dueTrouble(x, "nearest(0, 0)", x.nearest(0, 0), -1, 1);
        CHECK.due("winner(), of like ones the first", x.winner(), 0);
        CHECK.due("counted()", x.counted(), 2);
        CHECK.due("hang()", x.hang(), 0);
        CHECK.due("thickest()", x.thickest(), 21);
        x.sit(0, 2);
        x.sit(2, 3);
        CHECK.due("votes(0) at a lamp", x.votes(0), -2);
        CHECK.due("hang(), sharp ones too", x.hang(), 5);
        CHECK.due("winner()", x.winner(), 1);
        CHECK.due("counted()", x.counted(), 1);
        CHECK.due("thickest()", x.thickest(), 31);
        x.sit(2, 4);
        CHECK.due("thickest(), the first by rows, columns", x.thickest(), 31);
        x.sit(1, 1);
        x.sit(0, 4);
        x.sit(2, 3);
        CHECK.due("thickest(), by rows ahead of columns", x.thickest(), 31);
        PaperVote y = Check.told(EMPTY);
        CHECK.dueTrouble(y, "winner()", y.winner(), -2, 0);
        CHECK.due("thickest()", y.thickest(), -2);
        PaperVote z = new PaperVote();
        CHECK.dueTrouble(z, "counted()", z.counted(), -1, 1);
        CHECK.dueTrouble(z, "hang()", z.hang(), -1, 1);
        CHECK.dueTrouble(z, "thickest()", z.thickest(), -1, 1);
        CHECK.dueTrouble(z, "nearest(0, 1)", z.nearest(0, 1), -1, 1);
    }

    private static void odds() {
        CHECK.about("promises 17 to 21");
        PaperVote x = Check.told(TWO);
        CHECK.dueFraction("likely(0, 0)", x.likely(0, 0, false), x.likely(0, 0, true), 4, 5);
        CHECK.dueFraction("likely(0, 1)", x.likely(0, 1, false), x.likely(0, 1, true), 0, 1);
        CHECK.dueFraction("likely(1, 1)", x.likely(1, 1, false), x.likely(1, 1, true), 1, 1);
        CHECK.dueTrouble(x, "likely(2, 0)", x.likely(2, 0, true), 1, 0);
        CHECK.dueTrouble(x, "likely(3, 0)", x.likely(3, 0, false), -1, 1);
        CHECK.dueTrouble(x, "likely(0, 2)", x.likely(0, 2, false), -1, 1);
        CHECK.dueFraction("wins(0)", x.wins(0, false), x.wins(0, true), 4, 5);
        CHECK.dueFraction("wins(1)", x.wins(1, false), x.wins(1, true), 1, 5);
        CHECK.dueTrouble(x, "wins(2)", x.wins(2, false), -1, 1);
        CHECK.dueFraction("just(0, 0)", x.just(0, 0, false), x.just(0, 0, true), 1, 5);
        CHECK.dueFraction("just(0, 1)", x.just(0, 1, false), x.just(0, 1, true), 4, 5);
        CHECK.dueFraction("just(0, 6)", x.just(0, 6, false), x.just(0, 6, true), 0, 1);
        CHECK.dueFraction("just(1, 1)", x.just(1, 1, false), x.just(1, 1, true), 1, 1);
        CHECK.dueTrouble(x, "just(0, 7)", x.just(0, 7, false), -1, 2);
        CHECK.dueTrouble(x, "just(0, -1)", x.just(0, -1, false), -1, 2);
        CHECK.dueTrouble(x, "just(2, 7)", x.just(2, 7, false), -1, 1);
        CHECK.dueFraction("mean(0)", x.mean(0, false), x.mean(0, true), 4, 5);
        CHECK.dueFraction("mean(1)", x.mean(1, false), x.mean(1, true), 1, 1);
        CHECK.dueTrouble(x, "mean(-1)", x.mean(-1, false), -1, 1);
        CHECK.dueTrouble(x, "favourite()", x.favourite(), 0, 0);
        x.sit(0, 2);
        CHECK.dueFraction("likely(0, 0) beside a lamp", x.likely(0, 0, false), x.likely(0, 0, true), 1, 5);
        CHECK.dueFraction("likely(0, 1) beside a lamp", x.likely(0, 1, false), x.likely(0, 1, true), 1, 5);
        CHECK.due("favourite()", x.favourite(), 1);
        PaperVote y = Check.told(EMPTY);
        CHECK.due("favourite(), nobody can", y.favourite(), -2);
        fullOdds();
    }

    private static void fullOdds() {
        String text = "hall long 3 rows 1 nose 9;speaker a at 0 1;lamp 1 1";
        for (char m = 'b'; m < 'h'; m++) {
            text += ";member " + m + " plain seat 0 far 1 sharp 0 errs 1";
        }
        // Each one hangs in a lamp by 1 of 200: all six COUNT by 199 to the 6th of 200 to the 6th.
        PaperVote x = Check.told(text);
        CHECK.dueFraction("just(0, 6)", x.just(0, 6, false), x.just(0, 6, true),
                62103840598801L, 64000000000000L);
        CHECK.dueFraction("wins(0)", x.wins(0, false), x.wins(0, true),
                63999999999999L, 64000000000000L);
        CHECK.dueFraction("mean(0)", x.mean(0, false), x.mean(0, true), 597, 100);
        CHECK.dueFraction("just(0, 0)", x.just(0, 0, false), x.just(0, 0, true), 1, 64000000000000L);
    }

    private static void folds() {
        CHECK.about("promises 22 to 24");
        PaperVote x = Check.told(TWO);
        CHECK.due("bestFold(0, 1)", x.bestFold(0, 1), 22);
        CHECK.dueFraction("bestLikely(0, 1)", x.bestLikely(0, 1, false), x.bestLikely(0, 1, true), 1, 1);
        CHECK.due("bestFold(0, 0), the first", x.bestFold(0, 0), 2);
        CHECK.due("bestFold(2, 0), never", x.bestFold(2, 0), 1);
        CHECK.dueFraction("bestLikely(2, 0)", x.bestLikely(2, 0, false), x.bestLikely(2, 0, true), 0, 1);
        CHECK.due("bestSeat(0, 0)", x.bestSeat(0, 0), 0);
        CHECK.due("bestSeat(0, 1)", x.bestSeat(0, 1), 3);
        CHECK.dueTrouble(x, "bestSeat(2, 1), never", x.bestSeat(2, 1), 0, 0);
        CHECK.dueTrouble(x, "bestFold(3, 0)", x.bestFold(3, 0), -1, 1);
        CHECK.dueTrouble(x, "bestFold(0, 2)", x.bestFold(0, 2), -1, 1);
        CHECK.dueTrouble(x, "bestLikely(-1, 0)", x.bestLikely(-1, 0, true), -1, 1);
        CHECK.dueTrouble(x, "bestLikely(0, -1)", x.bestLikely(0, -1, true), -1, 1);
        CHECK.dueTrouble(x, "bestSeat(3, 0)", x.bestSeat(3, 0), -1, 1);
        CHECK.dueTrouble(x, "bestSeat(0, 2)", x.bestSeat(0, 2), -1, 1);
        CHECK.due("nothing has changed", x.lands(0), 21);
    }

    private static void placesAndGames() {
        CHECK.about("promises 25 to 29");
        PaperVote x = Check.told(TWO);
        CHECK.due("place(0)", x.place(0), 21);
        CHECK.due("placeVotes(0)", x.placeVotes(0), 2);
        CHECK.due("place(1), not where another stands", x.place(1), 11);
        CHECK.dueTrouble(x, "placeVotes(1)", x.placeVotes(1), 2, 0);
        CHECK.dueTrouble(x, "place(2)", x.place(2), -1, 1);
        CHECK.dueTrouble(x, "placeVotes(-1)", x.placeVotes(-1), -1, 1);
        CHECK.due("nothing has changed", x.speaker(0, 0), 0);
        CHECK.due("game(0, 2, 1, 2)", x.game(0, 2, 1, 2, false), 2);
        CHECK.due("game(0, 2, 1, 2) of the other", x.game(0, 2, 1, 2, true), 0);
        CHECK.due("game(1, 2, 0, 2)", x.game(1, 2, 0, 2, false), 0);
        CHECK.due("game(1, 3, 0, 0) ", x.game(1, 3, 0, 0, false), 1);
        CHECK.dueTrouble(x, "game of like ones", x.game(0, 2, 0, 2, true), -1, 1);
        CHECK.dueTrouble(x, "game in column 5", x.game(0, 5, 1, 2, true), -1, 1);
        CHECK.dueTrouble(x, "game in column -1", x.game(0, 0, 1, -1, true), -1, 1);
        CHECK.dueTrouble(x, "game of 2", x.game(2, 0, 1, 0, true), -1, 1);
        CHECK.due("rests(0, 1)", x.rests(0, 1), 5);
        CHECK.due("rest(0, 1)", x.rest(0, 1), 300);
        CHECK.dueTrouble(x, "rest(1, 0)", x.rest(1, 0), 3, 0);
        CHECK.dueTrouble(x, "rests(1, 1)", x.rests(1, 1), -1, 1);
        CHECK.dueTrouble(x, "rest(0, 0)", x.rest(0, 0), -1, 1);
        CHECK.dueTrouble(x, "rest(0, 2)", x.rest(0, 2), -1, 1);
        sameRow();
    }

    private static void sameRow() {
        PaperVote y = Check.told("hall long 3 rows 1 nose 0;speaker a at 0 1;speaker b at 2 1;lamp 1 1;"
                + "member m flat seat 0 far 1 sharp 0 errs 0;member n flat seat 2 far 1 sharp 0 errs 0;"
                + "member o flat seat 1 far 1 sharp 0 errs 0;member p flat seat 2 far 1 sharp 0 errs 0");
        CHECK.due("both in one place", y.game(0, 1, 1, 1, false), 3);
        CHECK.due("both in one place, of the other", y.game(0, 1, 1, 1, true), 0);
        CHECK.due("both in one place, told the other way", y.game(1, 2, 0, 2, false), 0);
        CHECK.due("darts that hang don't COUNT", y.game(0, 0, 1, 2, true), 2);
        CHECK.due("place(0), no lamp", y.place(0), 1);
        CHECK.due("placeVotes(0)", y.placeVotes(0), 1);
        CHECK.due("place(1), his own", y.place(1), 21);
        // a does best where b stands, having all three then, and b anywhere else: nowhere both rest.
        CHECK.dueTrouble(y, "rests(0, 1)", y.rests(0, 1), 0, 0);
        CHECK.due("rest(0, 1)", y.rest(0, 1), -2);
    }

    private static void airsByFlights() {
        CHECK.about("promises 30 to 35");
        PaperVote x = Check.told(FOGGY);
        CHECK.due("airs()", x.airs(), 3);
        CHECK.due("could(2)", x.could(2), 8);
        CHECK.due("could(3)", x.could(3), 28);
        CHECK.due("surely(2)", x.surely(2), 3);
        CHECK.due("surely(3)", x.surely(3), -2);
        CHECK.dueTrouble(x, "could(1)", x.could(1), -1, 5);
        CHECK.dueTrouble(x, "surely(1)", x.surely(1), -1, 5);
        CHECK.dueTrouble(x, "could(4)", x.could(4), -1, 1);
        CHECK.dueTrouble(x, "surely(0)", x.surely(0), -1, 1);
        CHECK.due("toThrow()", x.toThrow(), 3);
        CHECK.due("throwLeaves()", x.throwLeaves(), 1);
        CHECK.due("judge()", x.judge(), 0);
        x.warm(2, 4);
        CHECK.due("airs() with row 2 known", x.airs(), 3);
        CHECK.dueTrouble(x, "could(2)", x.could(2), -1, 5);
        CHECK.due("judge()", x.judge(), -2);
        x.warm(2, 3);
        CHECK.due("airs() by which no flight lands so", x.airs(), 0);
        CHECK.due("could(3)", x.could(3), 0);
        x.undo();
        x.warm(3, 2);
        CHECK.due("airs() with all known", x.airs(), 0);
        CHECK.due("judge()", x.judge(), 1);
        CHECK.dueTrouble(x, "toThrow()", x.toThrow(), -1, 6);
        CHECK.dueTrouble(x, "throwLeaves()", x.throwLeaves(), -1, 6);
        x.warm(3, 6);
        CHECK.due("airs() with all known and so", x.airs(), 1);
        PaperVote y = Check.told(NO_AIRS);
        CHECK.due("airs()", y.airs(), 0);
        CHECK.due("could(1)", y.could(1), 0);
        CHECK.due("surely(1)", y.surely(1), -2);
        CHECK.dueTrouble(y, "toThrow()", y.toThrow(), -2, 0);
        CHECK.dueTrouble(y, "throwLeaves()", y.throwLeaves(), -2, 0);
        CHECK.dueTrouble(y, "judge()", y.judge(), 1, 0);
        firstThrow();
    }

    private static void firstThrow() {
        PaperVote x = Check.told("hall long 12 rows 2 nose 9;fog 1;fog 2;speaker s at 0 1");
        CHECK.due("airs() without flights", x.airs(), 25);
        CHECK.due("could(1)", x.could(1), 31);
        // Sums of two drifts: 0 comes 5 times; from 4 no wall is met; nearer the wall more fall together.
        CHECK.due("throwLeaves()", x.throwLeaves(), 5);
        CHECK.due("toThrow(), seats ahead of rows", x.toThrow(), 21);
        PaperVote y = Check.told("hall long 12 rows 1 nose 9;fog 1;speaker s at 0 1;flight 0 far 1 lands 3");
        CHECK.due("airs(), 2 to the right at most", y.airs(), 0);
        PaperVote z = new PaperVote();
        CHECK.dueTrouble(z, "airs()", z.airs(), -1, 1);
        CHECK.dueTrouble(z, "could(1)", z.could(1), -1, 1);
        CHECK.dueTrouble(z, "surely(1)", z.surely(1), -1, 1);
        CHECK.dueTrouble(z, "toThrow()", z.toThrow(), -1, 1);
        CHECK.dueTrouble(z, "throwLeaves()", z.throwLeaves(), -1, 1);
        CHECK.dueTrouble(z, "judge()", z.judge(), -1, 1);
    }

    private static void powerAndRake() {
        CHECK.about("promises 36 to 38");
        PaperVote x = Check.told(TWO);
        CHECK.due("power(0)", x.power(0), 4);
        CHECK.due("power(1)", x.power(1), 2);
        CHECK.dueTrouble(x, "power(2)", x.power(2), 0, 0);
        CHECK.dueTrouble(x, "power(3)", x.power(3), -1, 1);
        CHECK.dueTrouble(x, "power(-1)", x.power(-1), -1, 1);
        CHECK.due("mighty()", x.mighty(), 0);
        CHECK.due("rake()", x.rake(), 10);
        PaperVote y = Check.told(SPEAKER + ";member m flat seat 4 far 3 sharp 2 errs 0;"
                + "member n plain seat 0 far 3 sharp 2 errs 0;member o plain seat 4 far 3 sharp 2 errs 0");
        CHECK.due("mighty(), nobody", y.mighty(), -2);
        CHECK.due("rake() round the hall", y.rake(), 14);
        PaperVote z = new PaperVote();
        CHECK.dueTrouble(z, "mighty()", z.mighty(), -1, 1);
        CHECK.dueTrouble(z, "rake()", z.rake(), -1, 1);
        CHECK.due("rake() without darts", Check.told(EMPTY).rake(), 0);
    }

    private static void sessions() {
        CHECK.about("promises 39 to 41");
        PaperVote x = Check.told(DRAWN);
        CHECK.due("sessions(0, 0, 1)", x.sessions(0, 0, 1), 0);
        CHECK.due("sessions(1, 0, 1)", x.sessions(1, 0, 1), 1);
        CHECK.due("sessions(0, 0, 5)", x.sessions(0, 0, 5), 2);
        CHECK.due("sessions(1, 0, 5)", x.sessions(1, 0, 5), 2);
        CHECK.due("sessions(0, 74, 1)", x.sessions(0, 74, 1), 1);
        CHECK.due("darts(0, 4)", x.darts(0, 4), 3);
        CHECK.due("darts(0, 5)", x.darts(0, 5), 4);
        CHECK.due("lucky(0, 0, 5)", x.lucky(0, 0, 5), 4);
        CHECK.due("SEED stays", x.size(9), 0);
        CHECK.due("no session is held", x.size(8), 0);
        CHECK.dueTrouble(x, "sessions(2, -1, 1)", x.sessions(2, -1, 1), -1, 1);
        CHECK.dueTrouble(x, "sessions(0, -1, 1)", x.sessions(0, -1, 1), -1, 2);
        CHECK.dueTrouble(x, "sessions(0, 65537, 1)", x.sessions(0, 65537, 1), -1, 2);
        CHECK.dueTrouble(x, "sessions(0, 0, 0)", x.sessions(0, 0, 0), -1, 2);
        CHECK.dueTrouble(x, "sessions(0, 0, 91)", x.sessions(0, 0, 91), -1, 2);
        CHECK.dueTrouble(x, "darts(65537, 1)", x.darts(65537, 1), -1, 2);
        CHECK.dueTrouble(x, "darts(0, 91)", x.darts(0, 91), -1, 2);
        CHECK.dueTrouble(x, "lucky(1, 0, 0)", x.lucky(1, 0, 0), -1, 1);
        CHECK.dueTrouble(x, "lucky(0, 0, 0)", x.lucky(0, 0, 0), -1, 2);
        // 75 times 65,536 and 74 are 74 less 75 by 65,537, so 65,536: DRAW 136 of 200, no error, a lamp.
        CHECK.dueTrouble(x, "darts(65536, 90)", x.darts(65536, 90), 0, 0);
        PaperVote y = new PaperVote();
        CHECK.dueTrouble(y, "darts(0, 0)", y.darts(0, 0), -1, 1);
        CHECK.dueTrouble(y, "session()", y.session(), -1, 1);
        held(x);
    }

    private static void held(PaperVote x) {
        CHECK.about("promises 47, 48");
        CHECK.dueTrouble(x, "session()", x.session(), 1, 0);
        CHECK.due("SEED", x.size(9), 74);
        CHECK.due("speaker(1, 2)", x.speaker(1, 2), 1);
        CHECK.due("session()", x.session(), 0);
        CHECK.due("session()", x.session(), 1);
        CHECK.due("session(), nobody", x.session(), -2);
        CHECK.due("SEED", x.size(9), 51790);
        CHECK.due("sessions held", x.size(8), 4);
        CHECK.due("speaker(0, 2)", x.speaker(0, 2), 1);
        CHECK.due("speaker(1, 2)", x.speaker(1, 2), 2);
        CHECK.dueTrouble(x, "seed(74)", x.seed(74), true, 0);
        CHECK.due("to undo, seed is no ACT", x.size(10), 4);
        CHECK.due("session()", x.session(), 0);
        CHECK.due("seed(0)", x.seed(0), true);
        CHECK.due("undo()", x.undo(), true);
        CHECK.due("SEED as ahead of the session", x.size(9), 74);
        CHECK.due("undo()", x.undo(), true);
        CHECK.due("SEED as ahead of the one before", x.size(9), 28652);
        CHECK.due("sessions held", x.size(8), 3);
        CHECK.dueTrouble(x, "seed(65536)", x.seed(65536), true, 0);
        CHECK.dueTrouble(x, "seed(65537)", x.seed(65537), false, 2);
        CHECK.dueTrouble(x, "seed(-1)", x.seed(-1), false, 2);
        PaperVote y = new PaperVote();
        CHECK.dueTrouble(y, "seed(-1)", y.seed(-1), false, 1);
    }

    private static void acts() {
        CHECK.about("promises 42 to 46");
        PaperVote x = Check.told(TWO);
        CHECK.dueTrouble(x, "sit(0, 4)", x.sit(0, 4), true, 0);
        CHECK.due("member(0, 1)", x.member(0, 1), 4);
        CHECK.dueTrouble(x, "sit(0, 4) again", x.sit(0, 4), false, 5);
        CHECK.dueTrouble(x, "sit(0, 5)", x.sit(0, 5), false, 1);
        CHECK.dueTrouble(x, "sit(0, -1)", x.sit(0, -1), false, 1);
        CHECK.dueTrouble(x, "sit(3, 0)", x.sit(3, 0), false, 1);
        CHECK.dueTrouble(x, "fold(0, 3)", x.fold(0, 3), true, 0);
        CHECK.due("member(0, 0)", x.member(0, 0), 3);
        CHECK.dueTrouble(x, "fold(0, 3) again", x.fold(0, 3), false, 5);
        CHECK.dueTrouble(x, "fold(0, 4)", x.fold(0, 4), false, 2);
        CHECK.dueTrouble(x, "fold(0, -1)", x.fold(0, -1), false, 2);
        CHECK.dueTrouble(x, "fold(3, 4)", x.fold(3, 4), false, 1);
        CHECK.dueTrouble(x, "aim(0, 3)", x.aim(0, 3), true, 0);
        CHECK.due("member(0, 2)", x.member(0, 2), 3);
        CHECK.dueTrouble(x, "aim(0, 3) again", x.aim(0, 3), false, 5);
        CHECK.dueTrouble(x, "aim(0, 4)", x.aim(0, 4), false, 1);
        CHECK.dueTrouble(x, "aim(0, 0)", x.aim(0, 0), false, 1);
        CHECK.dueTrouble(x, "aim(-1, 1)", x.aim(-1, 1), false, 1);
        CHECK.dueTrouble(x, "warm(1, 6)", x.warm(1, 6), true, 0);
        CHECK.due("air(1)", x.air(1), 6);
        CHECK.dueTrouble(x, "warm(1, 6) again", x.warm(1, 6), false, 5);
        CHECK.dueTrouble(x, "warm(1, 7)", x.warm(1, 7), false, 2);
        CHECK.dueTrouble(x, "warm(1, -1)", x.warm(1, -1), false, 2);
        CHECK.dueTrouble(x, "warm(4, 7)", x.warm(4, 7), false, 1);
        CHECK.dueTrouble(x, "warm(0, 3)", x.warm(0, 3), false, 1);
        CHECK.dueTrouble(x, "stand(1, 3, 3)", x.stand(1, 3, 3), true, 0);
        CHECK.due("speaker(1, 0)", x.speaker(1, 0), 3);
        CHECK.dueTrouble(x, "stand(1, 3, 3) again", x.stand(1, 3, 3), false, 5);
        CHECK.dueTrouble(x, "stand(1, 0, 1)", x.stand(1, 0, 1), false, 5);
        CHECK.dueTrouble(x, "stand(1, 3, 1)", x.stand(1, 3, 1), false, 5);
        CHECK.dueTrouble(x, "stand(1, 5, 1)", x.stand(1, 5, 1), false, 1);
        CHECK.dueTrouble(x, "stand(1, 4, 0)", x.stand(1, 4, 0), false, 1);
        CHECK.dueTrouble(x, "stand(2, 4, 1)", x.stand(2, 4, 1), false, 1);
        CHECK.due("ACTS that can be undone", x.size(10), 5);
        PaperVote y = Check.told(FOGGY);
        CHECK.dueTrouble(y, "warm(2, 3), unknown until then", y.warm(2, 3), true, 0);
        CHECK.due("rows not known", y.size(7), 1);
        CHECK.due("undo()", y.undo(), true);
        CHECK.due("air(2)", y.air(2), 7);
    }

    private static void undoing() {
        CHECK.about("promise 49");
        PaperVote x = Check.told(TWO);
        CHECK.dueTrouble(x, "undo()", x.undo(), false, 6);
        for (int i = 0; i < 18; i++) {
            CHECK.due("sit", x.sit(1, i % 2), true);
        }
        CHECK.due("16 are kept", x.size(10), 16);
        for (int i = 17; i >= 2; i--) {
            CHECK.dueTrouble(x, "undo()", x.undo(), true, 0);
            CHECK.due("member(1, 1)", x.member(1, 1), (i + 1) % 2);
            CHECK.due("size(10)", x.size(10), i - 2);
        }
        CHECK.dueTrouble(x, "undo() once more", x.undo(), false, 6);
        CHECK.due("member(1, 1)", x.member(1, 1), 1);
        CHECK.due("fold", x.fold(2, 0) && x.warm(1, 0) && x.stand(0, 2, 2), true);
        x.undo();
        CHECK.due("speaker(0, 0)", x.speaker(0, 0), 0);
        CHECK.due("speaker(0, 1)", x.speaker(0, 1), 1);
        x.undo();
        CHECK.due("air(1)", x.air(1), 4);
        x.undo();
        CHECK.due("member(2, 0)", x.member(2, 0), 3);
    }

    private static void images() {
        CHECK.about("promises 50, 51");
        PaperVote x = Check.told(DRAWN);
        CHECK.dueTrouble(x, "back(0)", x.back(0), false, 1);
        CHECK.dueTrouble(x, "image()", x.image(), 0, 0);
        x.session();
        CHECK.due("image()", x.image(), 1);
        x.session();
        CHECK.due("image()", x.image(), 2);
        CHECK.dueTrouble(x, "image()", x.image(), -1, 3);
        CHECK.due("size(11)", x.size(11), 3);
        CHECK.dueTrouble(x, "back(1)", x.back(1), true, 0);
        CHECK.due("SEED", x.size(9), 74);
        CHECK.due("sessions held", x.size(8), 1);
        CHECK.due("speaker(1, 2)", x.speaker(1, 2), 1);
        CHECK.due("size(10)", x.size(10), 0);
        CHECK.dueTrouble(x, "undo()", x.undo(), false, 6);
        CHECK.due("all IMAGES stay", x.size(11), 3);
        x.stand(0, 1, 1);
        CHECK.due("undo() of what came behind", x.undo(), true);
        CHECK.due("back(2)", x.back(2), true);
        CHECK.due("sessions held", x.size(8), 2);
        CHECK.due("back(0)", x.back(0), true);
        CHECK.due("sessions held", x.size(8), 0);
        CHECK.dueTrouble(x, "back(3)", x.back(3), false, 1);
        CHECK.dueTrouble(x, "back(-1)", x.back(-1), false, 1);
        x.sit(0, 0);
        CHECK.due("what isn't gone back to can be undone", x.size(10), 1);
        PaperVote y = new PaperVote();
        CHECK.dueTrouble(y, "image()", y.image(), -1, 1);
    }

    private static void ledAndSize() {
        CHECK.about("promises 52, 53");
        PaperVote x = Check.told(TWO);
        CHECK.due("led(0)", x.led(0), 0);
        CHECK.dueNoLed(x, 1);
        CHECK.dueNoLed(x, -1);
        x.sit(0, 3);
        CHECK.due("led(0)", x.led(0), 0);
        CHECK.due("led(1)", x.led(1), 1);
        CHECK.dueNoLed(x, 2);
        CHECK.dueNoLed(Check.told(EMPTY), 0);
        CHECK.dueNoLed(new PaperVote(), 0);
        int[] due = {5, 3, 5, 2, 3, 1, 0, 0, 0, 0, 1, 0, 0};
        for (int what = 0; what < due.length; what++) {
            CHECK.due("size(" + what + ")", x.size(what), due[what]);
        }
        CHECK.due("size(13)", x.size(13), -1);
        CHECK.due("size(-1)", x.size(-1), -1);
        PaperVote y = Check.told(FOGGY);
        CHECK.due("size(6)", y.size(6), 2);
        CHECK.due("size(7)", y.size(7), 2);
    }

    private static void troubles() {
        CHECK.about("promise 54");
        PaperVote x = Check.told(TWO);
        x.air(0);
        x.size(99);
        x.feed(1, 2, 3, 4, 5);
        x.fault();
        x.where();
        CHECK.dueNoLed(x, 99);
        CHECK.due("trouble() stays by calls that are never refused", x.trouble(), 1);
        x.air(1);
        CHECK.due("trouble() of one that wasn't", x.trouble(), 0);
        x.undo();
        CHECK.due("trouble()", x.trouble(), 6);
        x.seed(1);
        CHECK.due("trouble()", x.trouble(), 0);
    }
}
