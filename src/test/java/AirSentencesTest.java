/** Sentences of promises 30 to 35 (AIRS, THROWS) that name a boundary case. */
public final class AirSentencesTest {
    private static final String EMPTY = "hall long 3 rows 1 nose 0;speaker s at 0 1";
    private static final String FOG = "hall long 12 rows 1 nose 0;fog 1;speaker s at 0 1";
    private static final String NO_AIRS = FOG + ";flight 5 far 1 lands 5;flight 5 far 1 lands 6";
    private static final Check CHECK = new Check();

    public static void main(String[] args) throws Exception {
        Sentences.run(AirSentencesTest.class, CHECK);
    }

    /** One row in fog, and one flight from a column to another. */
    private static PaperVote flown(int from, int to) {
        return Check.told(FOG + ";flight " + from + " far 1 lands " + to);
    }

    private static void dueAirs(PaperVote x, int airs, int could, int surely) {
        CHECK.dueTrouble(x, "airs()", x.airs(), airs, 0);
        CHECK.dueTrouble(x, "could(1)", x.could(1), could, 0);
        CHECK.dueTrouble(x, "surely(1)", x.surely(1), surely, 0);
    }

    // ---- promise 30

    @Says("AIRS: how many rows of drifts (1 if no row is unknown and all flights land as told). NONE: 1 (no HALL).")
    static void promise30_noHall() {
        PaperVote x = new PaperVote();
        CHECK.dueTrouble(x, "airs()", x.airs(), -1, 1);
    }

    @Says("(1 if no row is unknown and all flights land as told)")
    static void promise30_noRowIsUnknown() {
        PaperVote x = Check.told(EMPTY);
        CHECK.dueTrouble(x, "airs() without flights", x.airs(), 1, 0);
        PaperVote y = Check.told(EMPTY + ";air 1 right 3;flight 0 far 1 lands 2");
        CHECK.dueTrouble(y, "airs(), as told", y.airs(), 1, 0);
        PaperVote z = Check.told(EMPTY + ";air 1 right 3;flight 0 far 1 lands 2;flight 0 far 1 lands 1");
        CHECK.dueTrouble(z, "airs(), one not as told", z.airs(), 0, 0);
    }

    @Says("for each row not known NOW a drift from 2 to the left to 2 to the right by which all flights")
    static void promise30_twoToEachSideAtMost() {
        dueAirs(flown(5, 2), 0, 0, -2);
        dueAirs(flown(5, 3), 1, 1, 0);
        dueAirs(flown(5, 7), 1, 16, 4);
        dueAirs(flown(5, 8), 0, 0, -2);
    }

    @Says("for each row not known NOW a drift from 2 to the left to 2 to the right by which all flights")
    static void promise30_flightsToTheWalls() {
        dueAirs(flown(0, 0), 3, 7, -2);
        dueAirs(flown(1, 0), 2, 3, -2);
        dueAirs(flown(11, 11), 3, 28, -2);
        dueAirs(flown(10, 11), 2, 24, -2);
    }

    @Says("for each row not known NOW a drift from 2 to the left to 2 to the right by which all flights")
    static void promise30_threeRowsWithoutFlights() {
        PaperVote x = Check.told("hall long 3 rows 6 nose 0;fog 2;fog 4;fog 6;air 1 left 3;speaker s at 0 1");
        CHECK.dueTrouble(x, "airs()", x.airs(), 125, 0);
        x.warm(4, 0);
        CHECK.dueTrouble(x, "airs() with two", x.airs(), 25, 0);
        x.warm(2, 3);
        x.warm(6, 3);
        CHECK.dueTrouble(x, "airs() with none", x.airs(), 1, 0);
    }

    @Says("(as plain ones, without error)")
    static void promise30_aFlightDoesNotTellOfRowsBehindIt() {
        PaperVote x = Check.told("hall long 12 rows 2 nose 0;fog 1;fog 2;speaker s at 0 1;flight 5 far 1 lands 6");
        CHECK.due("airs()", x.airs(), 5);
        CHECK.due("could(1)", x.could(1), 8);
        CHECK.due("could(2)", x.could(2), 31);
    }

    // ---- promise 31

    @Says("Drifts of a row in some, as bits of each and 2 (0 .. 4). NONE: 1; 5 (it is known NOW).")
    static void promise31_noSuchRow() {
        PaperVote x = Check.told(FOG);
        String before = Check.stateOf(x);
        CHECK.dueRefused(x, "could(0)", before, x.could(0), 1);
        CHECK.dueRefused(x, "could(2)", before, x.could(2), 1);
        CHECK.dueRefused(x, "could(-1)", before, x.could(-1), 1);
        CHECK.dueRefused(x, "could(MAX)", before, x.could(Integer.MAX_VALUE), 1);
    }

    @Says("Drifts of a row in some, as bits of each and 2 (0 .. 4). NONE: 1; 5 (it is known NOW).")
    static void promise31_noHall() {
        PaperVote x = new PaperVote();
        CHECK.dueTrouble(x, "could(1)", x.could(1), -1, 1);
    }

    @Says("Drifts of a row in some, as bits of each and 2 (0 .. 4). NONE: 1; 5 (it is known NOW).")
    static void promise31_knownNow() {
        PaperVote x = Check.told("hall long 12 rows 3 nose 0;fog 1;air 2 left 1;speaker s at 0 1");
        CHECK.dueTrouble(x, "could(2), told", x.could(2), -1, 5);
        CHECK.dueTrouble(x, "could(3), not told of", x.could(3), -1, 5);
        CHECK.dueTrouble(x, "could(1)", x.could(1), 31, 0);
        x.warm(1, 3);
        CHECK.dueTrouble(x, "could(1), warmed", x.could(1), -1, 5);
        x.undo();
        CHECK.dueTrouble(x, "could(1), undone", x.could(1), 31, 0);
    }

    @Says("Drifts of a row in some, as bits of each and 2 (0 .. 4). NONE: 1; 5 (it is known NOW).")
    static void promise31_eachDriftAndNone() {
        for (int drift = -2; drift <= 2; drift++) {
            PaperVote x = flown(5, 5 + drift);
            CHECK.dueTrouble(x, "could(1)", x.could(1), 1 << (drift + 2), 0);
        }
        PaperVote y = Check.told(NO_AIRS);
        CHECK.dueTrouble(y, "could(1) without AIRS", y.could(1), 0, 0);
    }

    // ---- promise 32

    @Says("That in all, and 2; -2. NONE: likewise.")
    static void promise32_noSuchRowOrKnown() {
        PaperVote x = Check.told("hall long 12 rows 3 nose 0;fog 1;air 2 left 1;speaker s at 0 1");
        CHECK.dueTrouble(x, "surely(0)", x.surely(0), -1, 1);
        CHECK.dueTrouble(x, "surely(4)", x.surely(4), -1, 1);
        CHECK.dueTrouble(x, "surely(-1)", x.surely(-1), -1, 1);
        CHECK.dueTrouble(x, "surely(2)", x.surely(2), -1, 5);
        CHECK.dueTrouble(x, "surely(3)", x.surely(3), -1, 5);
        x.warm(1, 4);
        CHECK.dueTrouble(x, "surely(1)", x.surely(1), -1, 5);
    }

    @Says("That in all, and 2; -2. NONE: likewise.")
    static void promise32_noHall() {
        PaperVote x = new PaperVote();
        CHECK.dueTrouble(x, "surely(1)", x.surely(1), -1, 1);
    }

    @Says("That in all, and 2; -2. NONE: likewise.")
    static void promise32_oneSomeOrNone() {
        for (int drift = -2; drift <= 2; drift++) {
            PaperVote x = flown(5, 5 + drift);
            CHECK.dueTrouble(x, "surely(1)", x.surely(1), drift + 2, 0);
        }
        PaperVote y = flown(1, 0);
        CHECK.dueTrouble(y, "surely(1) of two", y.surely(1), -2, 0);
        PaperVote z = Check.told(NO_AIRS);
        CHECK.dueTrouble(z, "surely(1) without AIRS", z.surely(1), -2, 0);
    }

    // ---- promises 33, 34

    @Says("THROW: 10 times the seat and the row; -2 no AIRS. NONE: 1 (no HALL); 6 (no row is unknown NOW).")
    static void promise33_noHall() {
        PaperVote x = new PaperVote();
        CHECK.dueTrouble(x, "toThrow()", x.toThrow(), -1, 1);
    }

    @Says("THROW: 10 times the seat and the row; -2 no AIRS. NONE: 1 (no HALL); 6 (no row is unknown NOW).")
    static void promise33_noRowIsUnknown() {
        PaperVote x = Check.told(EMPTY);
        CHECK.dueTrouble(x, "toThrow()", x.toThrow(), -1, 6);
        PaperVote y = Check.told(NO_AIRS);
        y.warm(1, 3);
        CHECK.dueTrouble(y, "toThrow(), no AIRS either", y.toThrow(), -1, 6);
    }

    @Says("THROW: 10 times the seat and the row; -2 no AIRS. NONE: 1 (no HALL); 6 (no row is unknown NOW).")
    static void promise33_noAirs() {
        PaperVote x = Check.told(NO_AIRS);
        CHECK.dueTrouble(x, "toThrow()", x.toThrow(), -2, 0);
    }

    @Says("at most fewest AIRS are left, the first such")
    static void promise33_theFirstOfLikeOnes() {
        // From 2 on no two drifts end at the wall together; all rows behind the fog tell as much.
        CHECK.due("toThrow()", Check.told(FOG).toThrow(), 21);
        PaperVote x = Check.told("hall long 12 rows 3 nose 0;fog 2;speaker s at 0 1");
        CHECK.due("toThrow(), fog in row 2", x.toThrow(), 22);
        PaperVote y = Check.told("hall long 12 rows 2 nose 0;fog 1;speaker s at 0 1;flight 5 far 1 lands 6");
        CHECK.due("toThrow(), all is told already", y.toThrow(), 1);
        CHECK.due("throwLeaves()", y.throwLeaves(), 1);
    }

    @Says("at most fewest AIRS are left, the first such")
    static void promise33_seatsAheadOfRows() {
        // 5 of 25 are left from seat 0 by row 3, and from seat 2 by row 1.
        PaperVote x = Check.told("hall long 6 rows 3 nose 0;fog 1;air 2 right 2;fog 3;speaker s at 0 1");
        CHECK.due("toThrow()", x.toThrow(), 3);
        CHECK.due("throwLeaves()", x.throwLeaves(), 5);
    }

    @Says("How many are left at most then; -2 likewise. NONE: likewise.")
    static void promise34_noHall() {
        PaperVote x = new PaperVote();
        CHECK.dueTrouble(x, "throwLeaves()", x.throwLeaves(), -1, 1);
    }

    @Says("How many are left at most then; -2 likewise. NONE: likewise.")
    static void promise34_noRowIsUnknown() {
        PaperVote x = Check.told(EMPTY);
        CHECK.dueTrouble(x, "throwLeaves()", x.throwLeaves(), -1, 6);
        PaperVote y = Check.told(NO_AIRS);
        y.warm(1, 3);
        CHECK.dueTrouble(y, "throwLeaves(), no AIRS either", y.throwLeaves(), -1, 6);
    }

    @Says("How many are left at most then; -2 likewise. NONE: likewise.")
    static void promise34_noAirs() {
        PaperVote x = Check.told(NO_AIRS);
        CHECK.dueTrouble(x, "throwLeaves()", x.throwLeaves(), -2, 0);
    }

    @Says("How many are left at most then; -2 likewise. NONE: likewise.")
    static void promise34_leastAndMost() {
        CHECK.due("throwLeaves(), each tells", Check.told(FOG).throwLeaves(), 1);
        // Three columns: 1 tells 2 to the left, none, 2 to the right, two being alike at each wall.
        PaperVote x = Check.told("hall long 3 rows 1 nose 0;fog 1;speaker s at 0 1");
        CHECK.due("toThrow()", x.toThrow(), 11);
        CHECK.due("throwLeaves()", x.throwLeaves(), 2);
    }

    // ---- promise 35

    @Says("The first flight, as told, that doesn't land so by airs NOW (unknown ones 0); -2. NONE: 1 (no HALL).")
    static void promise35_noHall() {
        PaperVote x = new PaperVote();
        CHECK.dueTrouble(x, "judge()", x.judge(), -1, 1);
    }

    @Says("The first flight, as told, that doesn't land so by airs NOW (unknown ones 0); -2. NONE: 1 (no HALL).")
    static void promise35_allLandSo() {
        PaperVote x = Check.told(EMPTY);
        CHECK.dueTrouble(x, "judge() without flights", x.judge(), -2, 0);
        PaperVote y = flown(5, 5);
        CHECK.dueTrouble(y, "judge(), unknown ones 0", y.judge(), -2, 0);
    }

    @Says("The first flight, as told, that doesn't land so by airs NOW (unknown ones 0); -2. NONE: 1 (no HALL).")
    static void promise35_theFirstAndTheLast() {
        String good = ";flight 5 far 1 lands 5";
        String bad = ";flight 5 far 1 lands 6";
        CHECK.due("judge(), the first", Check.told(FOG + bad + good + bad).judge(), 0);
        CHECK.due("judge(), the fifth", Check.told(FOG + good + good + good + good + bad).judge(), 4);
    }

    @Says("The first flight, as told, that doesn't land so by airs NOW (unknown ones 0); -2. NONE: 1 (no HALL).")
    static void promise35_byAirsNow() {
        PaperVote x = flown(5, 8);
        CHECK.due("judge()", x.judge(), 0);
        x.warm(1, 6);
        CHECK.dueTrouble(x, "judge(), three to the right", x.judge(), -2, 0);
    }

    @Says("by which all flights (as plain ones, without error) land as told")
    static void promise30_fiveFlights() {
        String text = "hall long 12 rows 2 nose 0;fog 1;air 2 right 1;speaker s at 0 1";
        for (int f = 0; f < 5; f++) {
            text += ";flight " + (2 * f) + " far 2 lands " + (2 * f + 3);
        }
        PaperVote x = Check.told(text);
        dueAirs(x, 1, 16, 4);
        CHECK.due("judge()", x.judge(), 0);
        x.warm(1, 5);
        CHECK.due("judge(), all land so", x.judge(), -2);
        CHECK.due("airs(), all land so", x.airs(), 1);
    }

    @Says("for each row not known NOW")
    static void promise30_afreshBehindAWarming() {
        // Rows 1 to 3 drift by 1 together.
        PaperVote x = Check.told("hall long 12 rows 3 nose 0;fog 1;fog 2;fog 3;speaker s at 0 1;flight 5 far 3 lands 6");
        CHECK.due("airs()", x.airs(), 18);
        CHECK.due("could(1)", x.could(1), 31);
        x.warm(2, 5);
        CHECK.due("airs(), row 2 by two to the right", x.airs(), 4);
        CHECK.due("could(1)", x.could(1), 15);
        CHECK.due("could(3)", x.could(3), 15);
        x.warm(1, 1);
        CHECK.due("airs(), row 1 by two to the left", x.airs(), 1);
        CHECK.due("could(3)", x.could(3), 8);
        CHECK.due("surely(3)", x.surely(3), 3);
        x.undo();
        x.undo();
        CHECK.due("airs() as it was", x.airs(), 18);
    }

    @Says("at most fewest AIRS are left, the first such")
    static void promise33_eachSeatByItself() {
        // One or two to the left: told apart from seat 2 on, however far the throws from 0 and 1 came.
        PaperVote x = Check.told("hall long 12 rows 2 nose 0;fog 1;air 2 right 3;speaker s at 0 1;"
                + "flight 1 far 1 lands 0");
        for (int i = 0; i < 2; i++) {
            CHECK.due("toThrow()", x.toThrow(), 21);
            CHECK.due("throwLeaves()", x.throwLeaves(), 1);
        }
    }

    @Says("The first flight, as told, that doesn't land so by airs NOW (unknown ones 0); -2. NONE: 1 (no HALL).")
    static void promise35_fiveThatLandSo() {
        String text = FOG;
        for (int f = 0; f < 5; f++) {
            text += ";flight 5 far 1 lands 5";
        }
        PaperVote x = Check.told(text);
        CHECK.dueTrouble(x, "judge()", x.judge(), -2, 0);
        CHECK.due("airs()", x.airs(), 1);
    }

    @Says("How many are left at most then; -2 likewise. NONE: likewise.")
    static void promise34_allAirsThereCanBe() {
        // From 1 two drifts of five lead to each wall, whatever the other rows do: 50 of 125.
        PaperVote x = Check.told("hall long 3 rows 3 nose 0;fog 1;fog 2;fog 3;speaker s at 0 1");
        CHECK.dueTrouble(x, "throwLeaves()", x.throwLeaves(), 50, 0);
        CHECK.dueTrouble(x, "toThrow()", x.toThrow(), 11, 0);
        PaperVote y = Check.told("hall long 12 rows 3 nose 0;fog 1;fog 2;fog 3;speaker s at 0 1");
        CHECK.dueTrouble(y, "throwLeaves(), 19 sums of three being 0", y.throwLeaves(), 19, 0);
        CHECK.dueTrouble(y, "toThrow()", y.toThrow(), 33, 0);
    }
}
