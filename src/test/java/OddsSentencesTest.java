/** Sentences of promises 17 to 24 (ODDS, FOLDS) that name a boundary case. */
public final class OddsSentencesTest {
    private static final String EMPTY = "hall long 3 rows 1 nose 0;speaker s at 0 1";
    private static final String TWO = "hall long 5 rows 1 nose 5;speaker a at 0 1;speaker b at 1 1";
    private static final Check CHECK = new Check();

    public static void main(String[] args) throws Exception {
        Sentences.run(OddsSentencesTest.class, CHECK);
    }

    private static String member(char name, int seat, int errs) {
        return ";member " + name + " flat seat " + seat + " far 1 sharp 0 errs " + errs;
    }

    private static PaperVote oneBy(int seat, int errs) {
        return Check.told(TWO + member('m', seat, errs));
    }

    private static void dueLikely(PaperVote x, int s, long upper, long lower) {
        CHECK.dueTrouble(x, "likely(0, " + s + "), upper", x.likely(0, s, false), upper, 0);
        CHECK.dueTrouble(x, "likely(0, " + s + "), lower", x.likely(0, s, true), lower, 0);
    }

    private static void dueWins(PaperVote x, int s, long upper, long lower) {
        CHECK.dueTrouble(x, "wins(" + s + "), upper", x.wins(s, false), upper, 0);
        CHECK.dueTrouble(x, "wins(" + s + "), lower", x.wins(s, true), lower, 0);
    }

    private static void dueJust(PaperVote x, int s, int many, long upper, long lower) {
        CHECK.dueTrouble(x, "just(" + s + ", " + many + "), upper", x.just(s, many, false), upper, 0);
        CHECK.dueTrouble(x, "just(" + s + ", " + many + "), lower", x.just(s, many, true), lower, 0);
    }

    private static void dueMean(PaperVote x, int s, long upper, long lower) {
        CHECK.dueTrouble(x, "mean(" + s + "), upper", x.mean(s, false), upper, 0);
        CHECK.dueTrouble(x, "mean(" + s + "), lower", x.mean(s, true), lower, 0);
    }

    private static void dueBest(PaperVote x, int m, int s, int fold, long upper, long lower) {
        CHECK.dueTrouble(x, "bestFold(" + m + ", " + s + ")", x.bestFold(m, s), fold, 0);
        CHECK.dueTrouble(x, "bestLikely(" + m + ", " + s + "), upper", x.bestLikely(m, s, false), upper, 0);
        CHECK.dueTrouble(x, "bestLikely(" + m + ", " + s + "), lower", x.bestLikely(m, s, true), lower, 0);
    }

    /** Six members, each of whom hangs by one of two hundred and is FOR a else. */
    private static PaperVote sixNearALamp() {
        String text = "hall long 3 rows 1 nose 9;speaker a at 0 1;lamp 1 1";
        for (char m = 'b'; m < 'h'; m++) {
            text += member(m, 0, 1);
        }
        return Check.told(text);
    }

    // ---- promise 17

    @Says("in lowest terms (0 by 1). -1: 1.")
    static void promise17_noSuchMemberOrSpeaker() {
        PaperVote x = oneBy(0, 50);
        String before = Check.stateOf(x);
        for (boolean lower : new boolean[] {false, true}) {
            CHECK.dueRefused(x, "likely(-1, 0)", before, x.likely(-1, 0, lower), 1);
            CHECK.dueRefused(x, "likely(1, 0)", before, x.likely(1, 0, lower), 1);
            CHECK.dueRefused(x, "likely(0, -1)", before, x.likely(0, -1, lower), 1);
            CHECK.dueRefused(x, "likely(0, 2)", before, x.likely(0, 2, lower), 1);
        }
        PaperVote y = Check.told(EMPTY);
        CHECK.dueTrouble(y, "likely(0, 0) of no member", y.likely(0, 0, true), -1, 1);
    }

    @Says("in lowest terms (0 by 1). -1: 1.")
    static void promise17_noHall() {
        PaperVote x = new PaperVote();
        CHECK.dueTrouble(x, "likely(0, 0)", x.likely(0, 0, false), -1, 1);
        CHECK.dueTrouble(x, "likely(0, 0)", x.likely(0, 0, true), -1, 1);
    }

    @Says("in lowest terms (0 by 1). -1: 1.")
    static void promise17_neverAndAlways() {
        PaperVote x = oneBy(0, 0);
        dueLikely(x, 0, 1, 1);
        dueLikely(x, 1, 0, 1);
        PaperVote y = Check.told(TWO + ";member m flat seat 0 far 1 sharp 6 errs 50");
        dueLikely(y, 0, 0, 1);
        dueLikely(y, 1, 0, 1);
    }

    @Says("(not beyond the wall: at it)")
    static void promise17_errorsAtTheLeftWall() {
        PaperVote x = oneBy(0, 50);
        dueLikely(x, 0, 3, 4);
        dueLikely(x, 1, 1, 4);
    }

    @Says("(not beyond the wall: at it)")
    static void promise17_errorsAtTheRightWall() {
        PaperVote x = Check.told("hall long 5 rows 1 nose 5;speaker a at 4 1;speaker b at 3 1" + member('m', 4, 50));
        dueLikely(x, 0, 3, 4);
        dueLikely(x, 1, 1, 4);
    }

    @Says("it comes down in that column by a hundred less errs, one to the left and one to the right by half of "
            + "errs each")
    static void promise17_halfOfAnOddNumber() {
        PaperVote x = oneBy(1, 1);
        dueLikely(x, 0, 1, 200);
        dueLikely(x, 1, 199, 200);
        PaperVote y = oneBy(1, 99);
        dueLikely(y, 0, 99, 200);
        dueLikely(y, 1, 101, 200);
    }

    @Says("it comes down in that column by a hundred less errs, one to the left and one to the right by half of "
            + "errs each")
    static void promise17_errsOfAHundred() {
        PaperVote x = Check.told("hall long 5 rows 1 nose 5;speaker a at 0 1;speaker b at 1 1;speaker c at 2 1"
                + member('m', 1, 100));
        dueLikely(x, 0, 1, 2);
        dueLikely(x, 1, 0, 1);
        dueLikely(x, 2, 1, 2);
    }

    @Says("or comes down at a lamp (it hangs)")
    static void promise17_anErrorToALamp() {
        PaperVote x = Check.told(TWO + ";lamp 2 1;lamp 4 1" + member('m', 3, 40));
        dueLikely(x, 1, 3, 5);
        dueLikely(x, 0, 0, 1);
    }

    @Says("How likely a member's dart is FOR a speaker and COUNTS")
    static void promise17_eachMemberByHisOwn() {
        // Row 1 drifts to the right by 3: plain to 4, stable to 2, loop to 0, flat stays at 1.
        PaperVote x = Check.told("hall long 5 rows 2 nose 0;air 1 right 3;speaker a at 0 1;speaker b at 4 1;"
                + "member m plain seat 1 far 1 sharp 0 errs 0;member n stable seat 1 far 1 sharp 0 errs 50;"
                + "member o loop seat 1 far 1 sharp 0 errs 0;member p flat seat 1 far 2 sharp 0 errs 0");
        long[][] due = {{0, 1}, {3, 4}, {1, 1}, {1, 1}};
        for (int m = 0; m < 4; m++) {
            CHECK.due("likely(" + m + ", 0), upper", x.likely(m, 0, false), due[m][0]);
            CHECK.due("likely(" + m + ", 0), lower", x.likely(m, 0, true), due[m][1]);
        }
        dueMean(x, 0, 11, 4);
        dueMean(x, 1, 5, 4);
        dueJust(x, 0, 3, 3, 4);
    }

    // ---- promise 18

    @Says("ODDS that a speaker wins, likewise. -1: 1.")
    static void promise18_noSuchSpeaker() {
        PaperVote x = oneBy(0, 50);
        String before = Check.stateOf(x);
        CHECK.dueRefused(x, "wins(-1)", before, x.wins(-1, false), 1);
        CHECK.dueRefused(x, "wins(2)", before, x.wins(2, true), 1);
        CHECK.dueRefused(x, "wins(4)", before, x.wins(4, true), 1);
    }

    @Says("ODDS that a speaker wins, likewise. -1: 1.")
    static void promise18_noHall() {
        PaperVote x = new PaperVote();
        CHECK.dueTrouble(x, "wins(0)", x.wins(0, false), -1, 1);
        CHECK.dueTrouble(x, "wins(0)", x.wins(0, true), -1, 1);
    }

    @Says("ODDS that a speaker wins, likewise. -1: 1.")
    static void promise18_neverAndAlways() {
        PaperVote x = Check.told(EMPTY);
        dueWins(x, 0, 0, 1);
        PaperVote y = Check.told(EMPTY + member('m', 1, 100));
        dueWins(y, 0, 1, 1);
        PaperVote z = Check.told(EMPTY + ";member m flat seat 0 far 1 sharp 1 errs 0");
        dueWins(z, 0, 0, 1);
    }

    @Says("ODDS: by all errors of all.")
    static void promise18_sixMembersByAllErrors() {
        // He wins but if all six hang: 1 of 200 to the sixth.
        dueWins(sixNearALamp(), 0, 63999999999999L, 64000000000000L);
    }

    @Says("WINNER: who has most that COUNT, of like ones the first; nobody if none COUNTS.")
    static void promise18_ofLikeOnesTheFirst() {
        // Each dart is for a or b by half: a wins unless both are for b.
        PaperVote x = Check.told("hall long 5 rows 1 nose 5;speaker a at 2 1;speaker b at 0 1"
                + member('m', 1, 100) + member('n', 1, 100));
        dueWins(x, 0, 3, 4);
        dueWins(x, 1, 1, 4);
    }

    // ---- promise 19

    @Says("ODDS that just so many (0 .. 6) COUNT FOR a speaker, likewise. -1: 1; 2.")
    static void promise19_noSuchSpeaker() {
        PaperVote x = oneBy(0, 50);
        CHECK.dueTrouble(x, "just(-1, 0)", x.just(-1, 0, false), -1, 1);
        CHECK.dueTrouble(x, "just(2, 0)", x.just(2, 0, true), -1, 1);
        CHECK.dueTrouble(x, "just(2, 7), 1 ahead of 2", x.just(2, 7, true), -1, 1);
    }

    @Says("ODDS that just so many (0 .. 6) COUNT FOR a speaker, likewise. -1: 1; 2.")
    static void promise19_noHall() {
        PaperVote x = new PaperVote();
        CHECK.dueTrouble(x, "just(0, 0)", x.just(0, 0, false), -1, 1);
        CHECK.dueTrouble(x, "just(0, 7)", x.just(0, 7, false), -1, 1);
    }

    @Says("ODDS that just so many (0 .. 6) COUNT FOR a speaker, likewise. -1: 1; 2.")
    static void promise19_tooFewOrTooMany() {
        PaperVote x = oneBy(0, 50);
        String before = Check.stateOf(x);
        CHECK.dueRefused(x, "just(0, -1)", before, x.just(0, -1, false), 2);
        CHECK.dueRefused(x, "just(0, 7)", before, x.just(0, 7, true), 2);
        CHECK.dueRefused(x, "just(0, MAX)", before, x.just(0, Integer.MAX_VALUE, true), 2);
        CHECK.dueRefused(x, "just(0, MIN)", before, x.just(0, Integer.MIN_VALUE, true), 2);
    }

    @Says("ODDS that just so many (0 .. 6) COUNT FOR a speaker, likewise. -1: 1; 2.")
    static void promise19_moreThanThereAreMembers() {
        PaperVote x = oneBy(0, 50);
        dueJust(x, 0, 0, 1, 4);
        dueJust(x, 0, 1, 3, 4);
        for (int many = 2; many <= 6; many++) {
            dueJust(x, 0, many, 0, 1);
        }
    }

    @Says("ODDS that just so many (0 .. 6) COUNT FOR a speaker, likewise. -1: 1; 2.")
    static void promise19_noMember() {
        PaperVote x = Check.told(EMPTY);
        dueJust(x, 0, 0, 1, 1);
        for (int many = 1; many <= 6; many++) {
            dueJust(x, 0, many, 0, 1);
        }
    }

    @Says("ODDS that just so many (0 .. 6) COUNT FOR a speaker, likewise. -1: 1; 2.")
    static void promise19_noneAndAllOfSix() {
        PaperVote x = sixNearALamp();
        dueJust(x, 0, 0, 1, 64000000000000L);
        dueJust(x, 0, 6, 62103840598801L, 64000000000000L);
        // Six times 199 by 200 to the sixth.
        dueJust(x, 0, 1, 597, 32000000000000L);
    }

    // ---- promise 20

    @Says("The mean of how many COUNT FOR a speaker, likewise. -1: 1.")
    static void promise20_noSuchSpeaker() {
        PaperVote x = oneBy(0, 50);
        CHECK.dueTrouble(x, "mean(-1)", x.mean(-1, false), -1, 1);
        CHECK.dueTrouble(x, "mean(2)", x.mean(2, true), -1, 1);
    }

    @Says("The mean of how many COUNT FOR a speaker, likewise. -1: 1.")
    static void promise20_noHall() {
        PaperVote x = new PaperVote();
        CHECK.dueTrouble(x, "mean(0)", x.mean(0, false), -1, 1);
        CHECK.dueTrouble(x, "mean(0)", x.mean(0, true), -1, 1);
    }

    @Says("The mean of how many COUNT FOR a speaker, likewise. -1: 1.")
    static void promise20_noneAndAll() {
        PaperVote x = Check.told(EMPTY);
        dueMean(x, 0, 0, 1);
        dueMean(sixNearALamp(), 0, 597, 100);
        String text = TWO;
        for (char m = 'm'; m < 's'; m++) {
            text += member(m, 0, 0);
        }
        PaperVote y = Check.told(text);
        dueMean(y, 0, 6, 1);
        dueMean(y, 1, 0, 1);
    }

    // ---- promise 21

    @Says("The speaker likeliest to win, the first such; -2 nobody can. NONE: 1 (no HALL).")
    static void promise21_noHall() {
        PaperVote x = new PaperVote();
        CHECK.dueTrouble(x, "favourite()", x.favourite(), -1, 1);
    }

    @Says("The speaker likeliest to win, the first such; -2 nobody can. NONE: 1 (no HALL).")
    static void promise21_nobodyCan() {
        PaperVote x = Check.told(EMPTY);
        CHECK.dueTrouble(x, "favourite() without members", x.favourite(), -2, 0);
        PaperVote y = Check.told(EMPTY + ";member m flat seat 0 far 1 sharp 1 errs 50");
        CHECK.dueTrouble(y, "favourite(), all too sharp", y.favourite(), -2, 0);
        PaperVote z = Check.told(EMPTY + ";lamp 1 1" + member('m', 1, 0));
        CHECK.dueTrouble(z, "favourite(), all hang", z.favourite(), -2, 0);
    }

    @Says("The speaker likeliest to win, the first such; -2 nobody can. NONE: 1 (no HALL).")
    static void promise21_byAnErrorAlone() {
        PaperVote x = Check.told(EMPTY + ";lamp 1 1" + member('m', 1, 1));
        CHECK.dueTrouble(x, "favourite()", x.favourite(), 0, 0);
    }

    @Says("The speaker likeliest to win, the first such; -2 nobody can. NONE: 1 (no HALL).")
    static void promise21_byTheLeastOdds() {
        PaperVote x = Check.told(EMPTY + ";lamp 1 1;lamp 2 1" + member('m', 1, 1));
        CHECK.dueTrouble(x, "favourite() by 1 of 200", x.favourite(), 0, 0);
        dueWins(x, 0, 1, 200);
    }

    @Says("The speaker likeliest to win, the first such; -2 nobody can. NONE: 1 (no HALL).")
    static void promise21_amongFourSpeakers() {
        String hall = "hall long 4 rows 1 nose 0;speaker a at 0 1;speaker b at 1 1;speaker c at 2 1;speaker d at 3 1";
        for (int s = 0; s < 4; s++) {
            PaperVote x = Check.told(hall + member('m', s, 10));
            CHECK.dueTrouble(x, "favourite() by a dart at " + s, x.favourite(), s, 0);
        }
    }

    @Says("The speaker likeliest to win, the first such; -2 nobody can. NONE: 1 (no HALL).")
    static void promise21_theFirstOfLikeOnes() {
        PaperVote x = Check.told("hall long 5 rows 1 nose 5;speaker a at 4 1;speaker b at 2 1;speaker c at 0 1"
                + member('m', 1, 100));
        CHECK.due("favourite(), b and c by half", x.favourite(), 1);
        PaperVote y = Check.told("hall long 5 rows 1 nose 5;speaker a at 4 1;speaker b at 2 1;speaker c at 0 1"
                + member('m', 0, 98));
        CHECK.due("favourite(), c by a bit more", y.favourite(), 2);
    }

    // ---- promises 22, 23

    @Says("FOLDS: 10 times the fold and the row. NONE: 1.")
    static void promise22_noSuchMemberOrSpeaker() {
        PaperVote x = oneBy(0, 50);
        String before = Check.stateOf(x);
        CHECK.dueRefused(x, "bestFold(-1, 0)", before, x.bestFold(-1, 0), 1);
        CHECK.dueRefused(x, "bestFold(1, 0)", before, x.bestFold(1, 0), 1);
        CHECK.dueRefused(x, "bestFold(0, -1)", before, x.bestFold(0, -1), 1);
        CHECK.dueRefused(x, "bestFold(0, 2)", before, x.bestFold(0, 2), 1);
    }

    @Says("FOLDS: 10 times the fold and the row. NONE: 1.")
    static void promise22_noHall() {
        PaperVote x = new PaperVote();
        CHECK.dueTrouble(x, "bestFold(0, 0)", x.bestFold(0, 0), -1, 1);
    }

    @Says("of like ones the first by folds (plain, stable, loop, flat), rows")
    static void promise22_foldsAheadOfRows() {
        // Plain in row 1 is for b, in row 2 for a; stable in row 1 is for a, too.
        PaperVote x = Check.told("hall long 5 rows 2 nose 5;air 1 right 1;air 2 left 1;speaker a at 0 1;"
                + "speaker b at 4 1;member m flat seat 2 far 1 sharp 0 errs 0");
        dueBest(x, 0, 0, 2, 1, 1);
        dueBest(x, 0, 1, 1, 1, 1);
    }

    @Says("of like ones the first by folds (plain, stable, loop, flat), rows")
    static void promise22_theFirstRowOfLikeOnes() {
        PaperVote x = Check.told("hall long 5 rows 6 nose 5;speaker a at 2 5;speaker b at 2 1;"
                + "member m flat seat 2 far 1 sharp 0 errs 0");
        dueBest(x, 0, 0, 3, 1, 1);
        dueBest(x, 0, 1, 1, 1, 1);
    }

    @Says("of like ones the first by folds (plain, stable, loop, flat), rows")
    static void promise22_eachFoldCanBeTheBest() {
        // Plain comes down at 3, stable at 2, loop and flat at 1; lamps leave but one of these.
        String hall = "hall long 5 rows 1 nose 5;air 1 right 2;speaker s at 0 1;";
        String member = ";member m plain seat 1 far 1 sharp 0 errs 0";
        CHECK.due("plain", Check.told(hall + "lamp 2 1;lamp 1 1" + member).bestFold(0, 0), 1);
        CHECK.due("stable", Check.told(hall + "lamp 3 1;lamp 1 1" + member).bestFold(0, 0), 11);
        CHECK.due("loop", Check.told(hall + "lamp 3 1;lamp 2 1" + member).bestFold(0, 0), 21);
        String other = ";member m plain seat 0 far 1 sharp 0 errs 0";
        PaperVote x = Check.told("hall long 5 rows 1 nose 5;air 1 right 3;speaker s at 0 1;lamp 3 1;lamp 1 1" + other);
        CHECK.due("flat", x.bestFold(0, 0), 31);
    }

    @Says("the fold and the row by which its dart is likeliest FOR him and COUNTS")
    static void promise22_neverIsTheFirst() {
        PaperVote x = Check.told(TWO + ";member m flat seat 4 far 1 sharp 6 errs 0");
        dueBest(x, 0, 0, 1, 0, 1);
        dueBest(x, 0, 1, 1, 0, 1);
    }

    @Says("How likely by it, likewise. -1: 1.")
    static void promise23_noSuchMemberOrSpeaker() {
        PaperVote x = oneBy(0, 50);
        String before = Check.stateOf(x);
        for (boolean lower : new boolean[] {false, true}) {
            CHECK.dueRefused(x, "bestLikely(-1, 0)", before, x.bestLikely(-1, 0, lower), 1);
            CHECK.dueRefused(x, "bestLikely(1, 0)", before, x.bestLikely(1, 0, lower), 1);
            CHECK.dueRefused(x, "bestLikely(0, -1)", before, x.bestLikely(0, -1, lower), 1);
            CHECK.dueRefused(x, "bestLikely(0, 2)", before, x.bestLikely(0, 2, lower), 1);
        }
    }

    @Says("How likely by it, likewise. -1: 1.")
    static void promise23_noHall() {
        PaperVote x = new PaperVote();
        CHECK.dueTrouble(x, "bestLikely(0, 0)", x.bestLikely(0, 0, false), -1, 1);
        CHECK.dueTrouble(x, "bestLikely(0, 0)", x.bestLikely(0, 0, true), -1, 1);
    }

    @Says("How likely by it, likewise. -1: 1.")
    static void promise23_inLowestTerms() {
        // From 0 plain and flat stay, three of four for a; loop comes down at 4, for b always.
        PaperVote x = oneBy(0, 50);
        dueBest(x, 0, 0, 1, 3, 4);
        dueBest(x, 0, 1, 21, 1, 1);
        PaperVote y = Check.told(TWO + ";member m flat seat 0 far 1 sharp 6 errs 50");
        dueBest(y, 0, 0, 1, 0, 1);
    }

    @Says("How likely by it, likewise. -1: 1.")
    static void promise23_nothingIsFoldedByIt() {
        PaperVote x = oneBy(0, 50);
        String before = Check.stateOf(x);
        x.bestFold(0, 1);
        x.bestLikely(0, 1, true);
        x.bestSeat(0, 1);
        CHECK.dueSame(x, "bestFold, bestLikely, bestSeat", before);
    }

    // ---- promise 24

    @Says("its dart is likeliest FOR a speaker and COUNTS, the first such. NONE: 1.")
    static void promise24_noSuchMemberOrSpeaker() {
        PaperVote x = oneBy(0, 50);
        String before = Check.stateOf(x);
        CHECK.dueRefused(x, "bestSeat(-1, 0)", before, x.bestSeat(-1, 0), 1);
        CHECK.dueRefused(x, "bestSeat(1, 0)", before, x.bestSeat(1, 0), 1);
        CHECK.dueRefused(x, "bestSeat(0, -1)", before, x.bestSeat(0, -1), 1);
        CHECK.dueRefused(x, "bestSeat(0, 2)", before, x.bestSeat(0, 2), 1);
    }

    @Says("its dart is likeliest FOR a speaker and COUNTS, the first such. NONE: 1.")
    static void promise24_noHall() {
        PaperVote x = new PaperVote();
        CHECK.dueTrouble(x, "bestSeat(0, 0)", x.bestSeat(0, 0), -1, 1);
    }

    @Says("its dart is likeliest FOR a speaker and COUNTS, the first such. NONE: 1.")
    static void promise24_theFirstOfLikeOnes() {
        PaperVote x = oneBy(0, 50);
        CHECK.dueTrouble(x, "bestSeat(0, 0)", x.bestSeat(0, 0), 0, 0);
        CHECK.dueTrouble(x, "bestSeat(0, 1), from 2 on always", x.bestSeat(0, 1), 2, 0);
    }

    @Says("its dart is likeliest FOR a speaker and COUNTS, the first such. NONE: 1.")
    static void promise24_theLastSeat() {
        PaperVote x = Check.told("hall long 12 rows 1 nose 5;speaker a at 0 1;speaker b at 11 1;speaker c at 10 1"
                + member('m', 0, 0));
        CHECK.due("bestSeat(0, 1)", x.bestSeat(0, 1), 11);
        x.fold(0, 2);
        CHECK.due("bestSeat(0, 1), folded to a loop", x.bestSeat(0, 1), 0);
    }

    @Says("its dart is likeliest FOR a speaker and COUNTS, the first such. NONE: 1.")
    static void promise24_neverIsTheFirst() {
        PaperVote x = Check.told(TWO + ";member m flat seat 4 far 1 sharp 6 errs 0");
        CHECK.dueTrouble(x, "bestSeat(0, 1)", x.bestSeat(0, 1), 0, 0);
    }

    @Says("How likely by it, likewise. -1: 1.")
    static void promise23_askedAlone() {
        PaperVote x = oneBy(0, 50);
        CHECK.due("bestLikely(0, 0), lower", x.bestLikely(0, 0, true), 4);
        CHECK.due("bestLikely(0, 1), lower", x.bestLikely(0, 1, true), 1);
        CHECK.due("bestLikely(0, 0), upper", x.bestLikely(0, 0, false), 3);
    }

    @Says("folded and aimed as NOW, its dart is likeliest FOR a speaker and COUNTS, the first such.")
    static void promise24_eachMemberByHisOwn() {
        // By the drift of 3 a plain one comes down at 0 from no seat, a flat one from 0 alone.
        PaperVote x = Check.told("hall long 5 rows 2 nose 0;air 1 right 3;speaker a at 4 1;speaker b at 0 1;"
                + "speaker c at 1 1;member m plain seat 1 far 1 sharp 0 errs 0;"
                + "member n loop seat 4 far 2 sharp 0 errs 0;member o flat seat 3 far 1 sharp 0 errs 0");
        CHECK.due("bestSeat(0, 0)", x.bestSeat(0, 0), 0);
        CHECK.due("bestSeat(1, 1)", x.bestSeat(1, 1), 1);
        CHECK.due("bestSeat(2, 2)", x.bestSeat(2, 2), 1);
        CHECK.due("bestFold(1, 1), loop from 4", x.bestFold(1, 1), 21);
        CHECK.due("bestFold(2, 1), loop from 3", x.bestFold(2, 1), 21);
        CHECK.due("bestFold(0, 2), stable from 1 to 2", x.bestFold(0, 2), 11);
    }

    @Says("(not beyond the wall: at it)")
    static void promise24_noSeatBeyondTheWall() {
        PaperVote x = Check.told("hall long 5 rows 1 nose 0;speaker a at 3 1;speaker b at 4 1" + member('m', 0, 50));
        CHECK.due("bestSeat(0, 1)", x.bestSeat(0, 1), 4);
    }
}
