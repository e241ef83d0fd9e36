/** Sentences of promises 36 to 38 (POWER, the RAKE) that name a boundary case. */
public final class SwaySentencesTest {
    private static final String EMPTY = "hall long 3 rows 1 nose 0;speaker s at 0 1";
    private static final String TWO = "hall long 5 rows 1 nose 0;speaker a at 0 1;speaker b at 4 1";
    private static final Check CHECK = new Check();

    public static void main(String[] args) throws Exception {
        Sentences.run(SwaySentencesTest.class, CHECK);
    }

    private static String member(char name, int seat, int sharp) {
        return ";member " + name + " plain seat " + seat + " far 1 sharp " + sharp + " errs 0";
    }

    private static void duePower(PaperVote x, int... due) {
        for (int m = 0; m < due.length; m++) {
            CHECK.dueTrouble(x, "power(" + m + ")", x.power(m), due[m], 0);
        }
    }

    // ---- promise 36

    @Says("POWER. NONE: 1.")
    static void promise36_noSuchMember() {
        PaperVote x = Check.told(TWO + member('m', 0, 0));
        String before = Check.stateOf(x);
        CHECK.dueRefused(x, "power(-1)", before, x.power(-1), 1);
        CHECK.dueRefused(x, "power(1)", before, x.power(1), 1);
        CHECK.dueRefused(x, "power(MAX)", before, x.power(Integer.MAX_VALUE), 1);
        PaperVote y = Check.told(EMPTY);
        CHECK.dueTrouble(y, "power(0) of none", y.power(0), -1, 1);
    }

    @Says("POWER. NONE: 1.")
    static void promise36_noHall() {
        PaperVote x = new PaperVote();
        CHECK.dueTrouble(x, "power(0)", x.power(0), -1, 1);
    }

    @Says("there is another WINNER, or one at all, if his dart is thrown too")
    static void promise36_oneAtAll() {
        duePower(Check.told(TWO + member('m', 0, 0)), 1);
        duePower(Check.told(TWO + member('m', 0, 0) + member('n', 0, 0)), 1, 1);
    }

    @Says("there is another WINNER, or one at all, if his dart is thrown too")
    static void promise36_anotherByLikeNumbers() {
        // Of like ones the first wins: b's member turns nothing if a's is thrown.
        duePower(Check.told(TWO + member('m', 0, 0) + member('n', 4, 0)), 2, 1);
        duePower(Check.told(TWO + member('m', 4, 0) + member('n', 0, 0)), 1, 2);
    }

    @Says("POWER of a member: in how many sets of the others")
    static void promise36_aDartThatDoesNotCount() {
        // The sharp one turns nothing, but doubles the sets of the other.
        duePower(Check.told(TWO + member('m', 0, 1) + member('n', 0, 0)), 0, 2);
        duePower(Check.told(TWO + ";lamp 2 1" + member('m', 2, 0) + member('n', 0, 0)), 0, 2);
    }

    @Says("POWER of a member: in how many sets of the others")
    static void promise36_allSetsOfFiveOthers() {
        String text = TWO + member('m', 0, 0);
        for (char m = 'n'; m < 's'; m++) {
            text += member(m, 4, 1);
        }
        duePower(Check.told(text), 32, 0, 0, 0, 0, 0);
    }

    @Says("there is another WINNER, or one at all, if his dart is thrown too")
    static void promise36_amongFourSpeakers() {
        // Of two darts that of the speaker told first goes ahead.
        String hall = "hall long 4 rows 1 nose 0;speaker a at 0 1;speaker b at 1 1;speaker c at 2 1;speaker d at 3 1";
        duePower(Check.told(hall + member('m', 3, 0) + member('n', 2, 0)), 1, 2);
        duePower(Check.told(hall + member('m', 3, 0) + member('n', 3, 0) + member('o', 0, 0)), 2, 2, 3);
    }

    // ---- promise 37

    @Says("The member with most, the first such; -2 nobody has any. NONE: 1 (no HALL).")
    static void promise37_noHall() {
        PaperVote x = new PaperVote();
        CHECK.dueTrouble(x, "mighty()", x.mighty(), -1, 1);
    }

    @Says("The member with most, the first such; -2 nobody has any. NONE: 1 (no HALL).")
    static void promise37_nobody() {
        PaperVote x = Check.told(EMPTY);
        CHECK.dueTrouble(x, "mighty() without members", x.mighty(), -2, 0);
        PaperVote y = Check.told(EMPTY + member('m', 0, 1) + member('n', 1, 9));
        CHECK.dueTrouble(y, "mighty(), all too sharp", y.mighty(), -2, 0);
    }

    @Says("The member with most, the first such; -2 nobody has any. NONE: 1 (no HALL).")
    static void promise37_theFirstOfLikeOnes() {
        PaperVote x = Check.told(TWO + member('m', 0, 1) + member('n', 4, 0) + member('o', 4, 0));
        CHECK.due("mighty()", x.mighty(), 1);
        PaperVote y = Check.told(TWO + member('m', 4, 0) + member('n', 0, 0));
        CHECK.due("mighty(), the second has more", y.mighty(), 1);
    }

    @Says("The member with most, the first such; -2 nobody has any. NONE: 1 (no HALL).")
    static void promise37_byTheLeastPower() {
        PaperVote x = Check.told(EMPTY + member('m', 0, 0));
        CHECK.due("mighty(), one member", x.mighty(), 0);
        PaperVote y = Check.told(EMPTY + member('m', 0, 0) + member('n', 0, 0) + member('o', 0, 0));
        CHECK.due("mighty(), each by one set", y.mighty(), 0);
    }

    // ---- promise 38

    @Says("RAKE: the steps. NONE: 1 (no HALL).")
    static void promise38_noHall() {
        PaperVote x = new PaperVote();
        CHECK.dueTrouble(x, "rake()", x.rake(), -1, 1);
    }

    @Says("to all places where darts come down without errors, one behind the other, and back")
    static void promise38_noDart() {
        PaperVote x = Check.told(EMPTY);
        CHECK.dueTrouble(x, "rake()", x.rake(), 0, 0);
    }

    @Says("from column 0 of row 0 to all places")
    static void promise38_nearestAndFarthest() {
        CHECK.due("rake() to 0 of 1", Check.told(EMPTY + member('m', 0, 0)).rake(), 2);
        PaperVote x = Check.told("hall long 12 rows 6 nose 0;speaker s at 0 1;"
                + "member m plain seat 11 far 6 sharp 0 errs 0");
        CHECK.due("rake() to 11 of 6", x.rake(), 34);
    }

    @Says("to all places where darts come down without errors, one behind the other, and back")
    static void promise38_thoseThatDoNotCountToo() {
        CHECK.due("rake(), too sharp", Check.told(EMPTY + member('m', 2, 9)).rake(), 6);
        CHECK.due("rake(), at a lamp", Check.told(EMPTY + ";lamp 2 1" + member('m', 2, 0)).rake(), 6);
    }

    @Says("RAKE: the fewest steps (columns and rows apart)")
    static void promise38_sixInOnePlaceOrInABadOrder() {
        String text = TWO;
        for (char m = 'm'; m < 's'; m++) {
            text += member(m, 3, 0);
        }
        CHECK.due("rake(), all in one place", Check.told(text).rake(), 8);
        int[] seats = {2, 4, 0, 3, 1, 4};
        text = TWO;
        for (int i = 0; i < 6; i++) {
            text += member((char) ('m' + i), seats[i], 0);
        }
        CHECK.due("rake(), there and back", Check.told(text).rake(), 10);
    }
}
