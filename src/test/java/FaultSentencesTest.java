/** Sentences of promises 4 and 5, and of THE TEXT (Terms I), that name a boundary case. */
public final class FaultSentencesTest {
    private static final String HALL = "hall long 5 rows 3 nose 1";
    private static final String PRE = HALL + ";speaker s at 0 1;";
    private static final String[] LINES = {"air 2 left 1", "air 2 right 1", "fog 2", "speaker t at 1 2",
        "member m plain seat 1 far 2 sharp 3 errs 4", "lamp 2 2", "flight 1 far 2 lands 3"};
    private static final String[] SORTS = {"hall", "air", "fog", "speaker", "member", "lamp", "flight"};
    private static final Check CHECK = new Check();

    public static void main(String[] args) throws Exception {
        Sentences.run(FaultSentencesTest.class, CHECK);
    }

    private static void fault(String text, int fault, int place) {
        PaperVote x = new PaperVote();
        CHECK.dueTrouble(x, "hall of " + text, Check.tell(x, text), -1, 4);
        CHECK.due("fault() of " + text, x.fault(), fault);
        CHECK.due("where() of " + text, x.where(), place);
    }

    private static PaperVote good(String text) {
        PaperVote x = new PaperVote();
        int speakers = Check.tell(x, text);
        CHECK.due("fault() of " + text, x.fault(), 0);
        CHECK.due("trouble() of " + text, x.trouble(), 0);
        CHECK.due("hall of " + text, speakers, x.size(3));
        return x;
    }

    /** A WHOLE behind some text has these bounds, and is a FAULT beyond each. */
    private static void bounds(String ahead, int low, int high, String behind) {
        for (int v = low; v <= high; v++) {
            good(ahead + v + behind);
        }
        fault(ahead + (high + 1) + behind, 4, ahead.length());
        fault(ahead + 999, 4, ahead.length());
        if (low > 0) {
            fault(ahead + (low - 1) + behind, 4, ahead.length());
        }
    }

    // ---- promise 4

    @Says("The FAULT of the latest hall() not refused by 2; 0 without one.")
    static void promise4_noHallYet() {
        PaperVote x = new PaperVote();
        CHECK.due("fault()", x.fault(), 0);
        x.hall(5);
        CHECK.due("fault() behind 2", x.fault(), 0);
    }

    @Says("The FAULT of the latest hall() not refused by 2; 0 without one.")
    static void promise4_theLatest() {
        PaperVote x = new PaperVote();
        Check.tell(x, "hall long 2");
        CHECK.due("fault()", x.fault(), 4);
        Check.tell(x, "?");
        CHECK.due("fault()", x.fault(), 1);
        Check.tell(x, "fog 1");
        CHECK.due("fault()", x.fault(), 6);
    }

    @Says("The FAULT of the latest hall() not refused by 2; 0 without one.")
    static void promise4_staysBehindOneRefusedBy2() {
        PaperVote x = new PaperVote();
        Check.tell(x, "hall long 2");
        x.hall(1);
        CHECK.due("fault()", x.fault(), 4);
        x.hall(-1);
        CHECK.due("fault()", x.fault(), 4);
    }

    @Says("The FAULT of the latest hall() not refused by 2; 0 without one.")
    static void promise4_staysBehindOtherCalls() {
        PaperVote x = new PaperVote();
        Check.tell(x, "hall long 2");
        x.winner();
        x.undo();
        x.feed(0, 0, 0, 0, 0);
        CHECK.due("fault()", x.fault(), 4);
    }

    @Says("The FAULT of the latest hall() not refused by 2; 0 without one.")
    static void promise4_goneWithAGoodHall() {
        PaperVote x = new PaperVote();
        Check.tell(x, "hall long 2");
        Check.tell(x, PRE + "lamp 1 1");
        CHECK.due("fault()", x.fault(), 0);
        x.hall(77);
        CHECK.due("fault() behind 2", x.fault(), 0);
    }

    // ---- promise 5

    @Says("Its place, if the latest call that may be refused was by 4; NONE else.")
    static void promise5_noCallYet() {
        CHECK.due("where()", new PaperVote().where(), -1);
    }

    @Says("Its place, if the latest call that may be refused was by 4; NONE else.")
    static void promise5_theLatestPlace() {
        PaperVote x = new PaperVote();
        Check.tell(x, "hall long 2");
        CHECK.due("where()", x.where(), 10);
        Check.tell(x, "hall ?");
        CHECK.due("where()", x.where(), 5);
        CHECK.due("where() again", x.where(), 5);
    }

    @Says("Its place, if the latest call that may be refused was by 4; NONE else.")
    static void promise5_noneBehindAnotherRefusal() {
        PaperVote x = new PaperVote();
        Check.tell(x, "hall long 2");
        x.hall(1);
        CHECK.due("where() behind 2", x.where(), -1);
        Check.tell(x, "hall long 2");
        x.air(1);
        CHECK.due("where() behind 1", x.where(), -1);
        Check.tell(x, "hall long 2");
        x.undo();
        CHECK.due("where() behind 6", x.where(), -1);
        CHECK.due("fault()", x.fault(), 4);
    }

    @Says("Its place, if the latest call that may be refused was by 4; NONE else.")
    static void promise5_noneBehindACallThatWasNot() {
        PaperVote x = good(PRE + "lamp 1 1");
        CHECK.due("where() behind a good hall", x.where(), -1);
        Check.tell(x, "hall long 2");
        x.air(1);
        CHECK.due("where()", x.where(), -1);
    }

    @Says("Its place, if the latest call that may be refused was by 4; NONE else.")
    static void promise5_staysBehindCallsThatAreNeverRefused() {
        PaperVote x = new PaperVote();
        Check.tell(x, "hall long 2");
        for (int i = 0; i < 46; i++) {
            x.feed(0, 0, 0, 0, 0);
        }
        x.fault();
        x.size(13);
        x.trouble();
        CHECK.dueNoLed(x, 0);
        CHECK.due("where()", x.where(), 10);
    }

    // ---- TOKENS

    @Says("blanks, 32, part TOKENS and mean nothing else")
    static void promise4_blanksAnywhereBetweenTokens() {
        PaperVote x = good("   hall  long 5   rows 3 nose 1   ;   speaker s  at 0    1  ;lamp 1   1   ");
        CHECK.due("size(5)", x.size(5), 1);
    }

    @Says("blanks, 32, part TOKENS and mean nothing else")
    static void promise4_noBlanksWhereTokensEndByThemselves() {
        PaperVote x = good("hall long12rows6nose9;speaker s at11 6;lamp 0 1;flight 1far2lands3");
        CHECK.due("speaker(0, 0)", x.speaker(0, 0), 11);
    }

    @Says("blanks, 32, part TOKENS and mean nothing else")
    static void promise4_aBlankPartsAWord() {
        fault("ha ll long 5", 1, 0);
        fault(HALL + ";speaker s t at 0 1", 1, 36);
    }

    @Says("blanks, 32, part TOKENS and mean nothing else")
    static void promise4_aBlankPartsAWhole() {
        fault("hall long 1 2 rows 3", 4, 10);
        fault("hall long 3 2 rows 3", 1, 12);
    }

    @Says("WORDS of 1 to 8 small letters that stand together")
    static void promise4_aWordOfOneLetterOrEight() {
        good(HALL + ";speaker a at 0 1;speaker zzzzzzzz at 1 1;speaker abcdefgh at 2 1");
    }

    @Says("WORDS of 1 to 8 small letters that stand together")
    static void promise4_aWordOfNineLettersIsNone() {
        fault(HALL + ";speaker abcdefghi at 0 1", 1, 34);
        fault("hallhallh", 1, 0);
        // As many letters as would push the first ones out of a number of 64 bits.
        fault(HALL + ";speaker s at 0 1;member zzzzzzzzzzzzzzzzzzzzzzzza", 1, 50);
        fault(HALL + ";speaker aaaaaaaaaaaaaaaaaaaaaaaaaaaaaaaaaaaaaaaaaaaaaaaaaaaaaaa at 0 1", 1, 34);
    }

    @Says("WORDS of 1 to 8 small letters that stand together")
    static void promise4_everySmallLetterIsOne() {
        for (char c = 'a'; c <= 'z'; c++) {
            good(HALL + ";speaker " + c + " at 0 1;speaker x" + c + "y at 1 1");
        }
    }

    @Says("WORDS of 1 to 8 small letters that stand together")
    static void promise4_noOtherByteIsALetter() {
        for (int b = 0; b < 256; b++) {
            boolean small = b >= 'a' && b <= 'z';
            // Behind a blank the next WORD is where no HALL goes on, else the byte itself.
            if (!small) {
                fault(HALL + ";speaker x" + (char) b + "y at 1 1", 1, b == ' ' ? 36 : 35);
            }
        }
    }

    @Says("WHOLES of 1 to 3 digits that do")
    static void promise4_aWholeOfUpToThreeDigits() {
        PaperVote x = good("hall long 005 rows 03 nose 1;speaker s at 004 003;"
                + "member m flat seat 00 far 001 sharp 009 errs 100");
        CHECK.due("size(0)", x.size(0), 5);
        CHECK.due("speaker(0, 0)", x.speaker(0, 0), 4);
        CHECK.due("member(0, 4)", x.member(0, 4), 100);
    }

    @Says("WHOLES of 1 to 3 digits that do")
    static void promise4_aWholeOfFourDigitsIsNone() {
        fault("hall long 0005 rows 3", 1, 10);
        fault("hall long 1000 rows 3", 1, 10);
        fault("hall long 4294967299 rows 3", 1, 10);
        fault("hall long 5 rows 18446744073709551617 nose", 1, 17);
    }

    @Says("WHOLES of 1 to 3 digits that do")
    static void promise4_everyDigitIsOne() {
        for (int d = 0; d <= 9; d++) {
            PaperVote x = good(PRE + "member m flat seat 0 far 1 sharp " + d + " errs " + d + d);
            CHECK.due("member(0, 3)", x.member(0, 3), d);
            CHECK.due("member(0, 4)", x.member(0, 4), 11 * d);
        }
    }

    @Says("WHOLES of 1 to 3 digits that do")
    static void promise4_noOtherByteIsADigit() {
        for (int b = 0; b < 256; b++) {
            if (b != ' ' && (b < '0' || b > '9')) {
                fault("hall long " + (char) b + " rows 3", 1, 10);
                fault("hall long 5" + (char) b + " rows 3", 1, 11);
            }
        }
    }

    @Says("single ones of ;")
    static void promise4_onePartsLinesNoMore() {
        fault(";" + HALL, 1, 0);
        fault(HALL + ";;speaker s at 0 1", 1, 26);
        fault(HALL + ";speaker s at 0 1;", 1, 43);
        fault(HALL + ";speaker s at 0 1; ", 1, 44);
        fault(HALL + ";speaker; s at 0 1", 1, 33);
        fault(HALL + " speaker s at 0 1", 1, 26);
    }

    // ---- 1 FORM

    @Says("1 FORM: the first byte that begins no TOKEN")
    static void promise4_bytesThatBeginNoToken() {
        for (int b = 0; b < 256; b++) {
            boolean token = b == ' ' || b == ';' || b >= '0' && b <= '9' || b >= 'a' && b <= 'z';
            if (!token) {
                fault(PRE + (char) b, 1, 43);
                fault((char) b + HALL, 1, 0);
                fault(PRE + "lamp 1 1" + (char) b, 1, 51);
            }
        }
    }

    @Says("(the end: its place)")
    static void promise4_anEmptyText() {
        fault("", 1, 0);
        fault(" ", 1, 1);
        fault("       ", 1, 7);
    }

    @Says("(the end: its place)")
    static void promise4_theEndWithinALine() {
        String[] hall = HALL.split(" ");
        String text = "";
        for (int i = 0; i + 1 < hall.length; i++) {
            text += hall[i];
            fault(text, 1, text.length());
            text += " ";
            fault(text, 1, text.length());
        }
        for (String line : LINES) {
            String[] tokens = line.split(" ");
            String some = PRE;
            for (int i = 0; i + 1 < tokens.length; i++) {
                some += tokens[i] + " ";
                fault(some, 1, some.length());
            }
            good(PRE + line);
        }
    }

    @Says("or TOKEN with which no HALL goes on")
    static void promise4_anotherTokenWithinALine() {
        for (String line : LINES) {
            String[] tokens = line.split(" ");
            String some = PRE;
            for (int i = 0; i < tokens.length; i++) {
                boolean whole = Character.isDigit(tokens[i].charAt(0));
                fault(some + ";" + " 1", 1, some.length());
                fault(some + (whole ? "word" : "1"), 1, some.length());
                boolean name = i == 1 && (line.startsWith("speaker") || line.startsWith("member"));
                if (!whole && !name) {
                    fault(some + "word", 1, some.length());
                    fault(some + tokens[i] + "x", 1, some.length());
                }
                some += tokens[i] + " ";
            }
            fault(some + "1", 1, some.length());
            fault(some + "word", 1, some.length());
        }
    }

    @Says("or TOKEN with which no HALL goes on")
    static void promise4_anotherTokenWithinTheHallLine() {
        String[] tokens = HALL.split(" ");
        String some = "";
        for (String token : tokens) {
            boolean whole = Character.isDigit(token.charAt(0));
            fault(some + (whole ? "word" : "1"), 1, some.length());
            fault(some + "; 1", 1, some.length());
            if (!whole) {
                fault(some + "word", 1, some.length());
                fault(some + token + "x", 1, some.length());
                fault(some + token.substring(1), 1, some.length());
            }
            some += token + " ";
        }
        fault(some + "5", 1, some.length());
    }

    @Says("SIDE: left, or right")
    static void promise4_noThirdSide() {
        fault(PRE + "air 1 up 1", 1, 49);
        fault(PRE + "air 1 lef 1", 1, 49);
        fault(PRE + "air 1 rights 1", 1, 49);
        CHECK.due("air(1)", good(PRE + "air 1 left 3").air(1), 0);
        CHECK.due("air(1)", good(PRE + "air 1 right 3").air(1), 6);
    }

    @Says("FOLD: plain, stable, loop, or flat")
    static void promise4_noFifthFold() {
        String[] folds = {"plain", "stable", "loop", "flat"};
        for (int i = 0; i < folds.length; i++) {
            PaperVote x = good(PRE + "member m " + folds[i] + " seat 0 far 1 sharp 0 errs 0");
            CHECK.due("member(0, 0)", x.member(0, 0), i);
        }
        fault(PRE + "member m paper seat", 1, 52);
        fault(PRE + "member m plane seat", 1, 52);
        fault(PRE + "member m seat", 1, 52);
    }

    @Says("NAMES are WORDS but hall, air, fog, speaker, member, lamp, flight")
    static void promise4_wordsThatAreNoNames() {
        for (String sort : SORTS) {
            fault(HALL + ";speaker " + sort + " at 0 1", 1, 34);
            fault(PRE + "member " + sort + " flat", 1, 50);
        }
    }

    @Says("NAMES are WORDS but hall, air, fog, speaker, member, lamp, flight")
    static void promise4_otherWordsOfTheTextAreNames() {
        String[] words = {"long", "rows", "nose", "left", "right", "at", "plain", "stable", "loop", "flat",
            "seat", "far", "sharp", "errs", "lands", "halls", "hal", "airs", "speakers", "flights", "lamps"};
        for (String word : words) {
            good(HALL + ";speaker " + word + " at 0 1");
            good(PRE + "member " + word + " flat seat 0 far 1 sharp 0 errs 0");
        }
    }

    // ---- 2, 3

    @Says("2 none such here.")
    static void promise4_neverTwo() {
        java.util.Random chance = new java.util.Random(7);
        Halls halls = new Halls(chance);
        for (int i = 0; i < 3000; i++) {
            PaperVote x = new PaperVote();
            Check.tell(x, halls.spoiled());
            CHECK.due("fault() is 2", x.fault() == 2 ? 1 : 0, 0);
        }
    }

    @Says("3 a NAME told again; at it")
    static void promise4_aNameToldAgain() {
        String member = " flat seat 0 far 1 sharp 0 errs 0";
        fault(PRE + "speaker s at 1 1", 3, 51);
        fault(PRE + "member s" + member, 3, 50);
        fault(HALL + ";member s" + member + ";speaker s at 0 1", 3, 76);
        fault(HALL + ";member s" + member + ";member s" + member, 3, 75);
        fault(PRE + "speaker   s", 3, 53);
    }

    @Says("3 a NAME told again; at it")
    static void promise4_aNameToldAgainBehindMany() {
        String text = HALL;
        for (int i = 0; i < 4; i++) {
            text += ";speaker " + (char) ('a' + i) + " at " + i + " 1";
        }
        for (int i = 4; i < 9; i++) {
            text += ";member " + (char) ('a' + i) + " flat seat 0 far 1 sharp 0 errs 0";
        }
        for (int i = 0; i < 9; i++) {
            fault(text + ";member " + (char) ('a' + i) + " flat", 3, text.length() + 8);
        }
        good(text + ";member j flat seat 0 far 1 sharp 0 errs 0");
    }

    @Says("3 a NAME told again; at it")
    static void promise4_namesThatDifferAreUnlike() {
        good(HALL + ";speaker a at 0 1;speaker aa at 1 1;speaker aaaaaaaa at 2 1;speaker aaaaaaa at 3 1;"
                + "member ab flat seat 0 far 1 sharp 0 errs 0;member ba flat seat 0 far 1 sharp 0 errs 0;"
                + "member b flat seat 0 far 1 sharp 0 errs 0;member baaaaaaa flat seat 0 far 1 sharp 0 errs 0");
    }

    @Says("a row's air told already; at its WHOLE")
    static void promise4_anAirToldAlready() {
        fault(PRE + "air 2 left 1;air 2 left 1", 3, 60);
        fault(PRE + "air 2 left 0;air 2 right", 3, 60);
        fault(PRE + "air 2 left 1;fog 2", 3, 60);
        fault(PRE + "fog 2;air 2 left 1", 3, 53);
        fault(PRE + "fog 2;fog 2", 3, 53);
        fault(PRE + "fog 2;fog 002", 3, 53);
        good(PRE + "fog 2;air 1 left 1;air 3 right 3");
    }

    @Says("those not told of: 0")
    static void promise4_airsNotToldOf() {
        PaperVote x = good(PRE + "air 2 left 3");
        CHECK.due("air(1)", x.air(1), 3);
        CHECK.due("air(2)", x.air(2), 0);
        CHECK.due("air(3)", x.air(3), 3);
    }

    @Says("a place of a speaker, or a lamp, told already: at its second WHOLE")
    static void promise4_aPlaceToldAlready() {
        fault(PRE + "speaker t at 0 1", 3, 58);
        fault(PRE + "lamp 0 1", 3, 50);
        fault(PRE + "lamp 1 2;lamp 1 2", 3, 59);
        fault(PRE + "lamp 1 2;speaker t at 1 2", 3, 67);
        fault(PRE + "lamp 000  001", 3, 53);
    }

    @Says("a place of a speaker, or a lamp, told already: at its second WHOLE")
    static void promise4_placesBesideAreNotToldYet() {
        good(PRE + "speaker t at 1 1;speaker u at 0 2;lamp 1 2;lamp 2 1;lamp 0 3");
    }

    @Says("a second hall: at that WORD")
    static void promise4_aSecondHall() {
        fault(HALL + ";hall", 3, 26);
        fault(HALL + "; " + HALL, 3, 27);
        fault(PRE + "hall long 99", 3, 43);
        fault(PRE + "hall ?", 3, 43);
    }

    // ---- 4

    @Says("(columns 3 .. 12; rows 1 .. 6; 0 .. 9)")
    static void promise4_boundsOfTheHallLine() {
        bounds("hall long ", 3, 12, " rows 1 nose 0;speaker s at 0 1");
        bounds("hall long 3 rows ", 1, 6, " nose 0;speaker s at 0 1");
        bounds("hall long 3 rows 1 nose ", 0, 9, ";speaker s at 0 1");
        fault("hall long 0", 4, 10);
    }

    @Says("(a row, 1 to rows; SIDE: left, or right; 0 .. 3)")
    static void promise4_boundsOfAnAir() {
        bounds(PRE + "air ", 1, 3, " left 1");
        bounds(PRE + "air 3 left ", 0, 3, "");
        bounds(PRE + "air 3 right ", 0, 3, "");
        bounds("hall long 3 rows 6 nose 0;speaker s at 0 1;air ", 1, 6, " left 1");
        bounds("hall long 3 rows 1 nose 0;speaker s at 0 1;air ", 1, 1, " left 1");
    }

    @Says("or fog WHOLE (a row whose air isn't known; up to 3)")
    static void promise4_boundsOfAFog() {
        bounds(PRE + "fog ", 1, 3, "");
        bounds("hall long 3 rows 1 nose 0;speaker s at 0 1;fog ", 1, 1, "");
    }

    @Says("speaker NAME at WHOLE WHOLE (a column, 0 to long less 1, a row; up to 4)")
    static void promise4_boundsOfASpeaker() {
        bounds(HALL + ";speaker s at ", 0, 4, " 1");
        bounds(HALL + ";speaker s at 4 ", 1, 3, "");
        bounds("hall long 12 rows 6 nose 0;speaker s at ", 0, 11, " 6");
        bounds("hall long 3 rows 6 nose 0;speaker s at 2 ", 1, 6, "");
    }

    @Says("(FOLD: plain, stable, loop, or flat; a column; a row; 0 .. 9; 0 .. 100 in a hundred; up to 6)")
    static void promise4_boundsOfAMember() {
        String member = PRE + "member m loop seat ";
        bounds(member, 0, 4, " far 1 sharp 0 errs 0");
        bounds(member + "0 far ", 1, 3, " sharp 0 errs 0");
        bounds(member + "0 far 1 sharp ", 0, 9, " errs 0");
        bounds(member + "0 far 1 sharp 0 errs ", 0, 100, "");
    }

    @Says("lamp WHOLE WHOLE (a column, a row; up to 3)")
    static void promise4_boundsOfALamp() {
        bounds(PRE + "lamp ", 0, 4, " 2");
        bounds(PRE + "lamp 1 ", 1, 3, "");
    }

    @Says("flight WHOLE far WHOLE lands WHOLE (a column, a row, a column; up to 5)")
    static void promise4_boundsOfAFlight() {
        bounds(PRE + "flight ", 0, 4, " far 1 lands 0");
        bounds(PRE + "flight 0 far ", 1, 3, " lands 0");
        bounds(PRE + "flight 0 far 1 lands ", 0, 4, "");
    }

    // ---- 5 MANY

    /** As many LINES as there is room for are good; one more is a FAULT at its first WORD. */
    private static void many(String ahead, String[] lines, String sort) {
        String text = ahead;
        for (String line : lines) {
            text += ";" + line;
            good(text);
        }
        fault(text + ";" + sort, 5, text.length() + 1);
        fault(text + "; " + sort + " ?", 5, text.length() + 2);
        fault(text + ";lamp 4 3;" + sort, 5, text.length() + 10);
    }

    @Says("5 MANY: a LINE more of its sort than there is room for, at its first WORD.")
    static void promise4_aFourthFog() {
        many("hall long 5 rows 4 nose 0;speaker s at 0 1", new String[] {"fog 1", "fog 4", "fog 3"}, "fog");
    }

    @Says("5 MANY: a LINE more of its sort than there is room for, at its first WORD.")
    static void promise4_aFifthSpeaker() {
        many(HALL, new String[] {"speaker a at 0 1", "speaker b at 1 1", "speaker c at 2 1",
            "speaker d at 3 1"}, "speaker");
    }

    @Says("5 MANY: a LINE more of its sort than there is room for, at its first WORD.")
    static void promise4_aSeventhMember() {
        String[] lines = new String[6];
        for (int i = 0; i < 6; i++) {
            lines[i] = "member " + (char) ('a' + i) + " flat seat 0 far 1 sharp 0 errs 0";
        }
        many(HALL + ";speaker s at 0 1", lines, "member");
    }

    @Says("5 MANY: a LINE more of its sort than there is room for, at its first WORD.")
    static void promise4_aFourthLamp() {
        String text = PRE + "lamp 1 1;lamp 2 1;lamp 3 1";
        CHECK.due("size(5)", good(text).size(5), 3);
        fault(text + ";lamp", 5, text.length() + 1);
        fault(text + ";lamp 99 99", 5, text.length() + 1);
        fault(text + ";lamp 1 1", 5, text.length() + 1);
    }

    @Says("5 MANY: a LINE more of its sort than there is room for, at its first WORD.")
    static void promise4_aSixthFlight() {
        String[] lines = new String[5];
        for (int i = 0; i < 5; i++) {
            lines[i] = "flight 0 far 1 lands 0";
        }
        many(HALL + ";speaker s at 0 1", lines, "flight");
    }

    @Says("5 MANY: a LINE more of its sort than there is room for, at its first WORD.")
    static void promise4_anAirForEachRowHasRoom() {
        String text = "hall long 5 rows 6 nose 0;speaker s at 0 1";
        for (int row = 1; row <= 6; row++) {
            text += ";air " + row + " left 1";
        }
        good(text);
        fault(text + ";air 6", 3, text.length() + 5);
        fault(text + ";fog 6", 3, text.length() + 5);
    }

    @Says("5 MANY: a LINE more of its sort than there is room for, at its first WORD.")
    static void promise4_everythingFullAtOnce() {
        String text = "hall long 12 rows 6 nose 9";
        for (int i = 0; i < 6; i++) {
            text += ";member m" + (char) ('a' + i) + " stable seat 11 far 6 sharp 9 errs 100";
            text += i < 3 ? ";fog " + (i + 1) + ";lamp " + i + " 1" : ";air " + (i + 1) + " left 3";
            text += i < 4 ? ";speaker s" + (char) ('a' + i) + " at " + i + " 6" : "";
            text += i < 5 ? ";flight 11 far 6 lands 11" : "";
        }
        PaperVote x = good(text);
        int[] due = {12, 6, 9, 4, 6, 3, 5, 3};
        for (int what = 0; what < due.length; what++) {
            CHECK.due("size(" + what + ")", x.size(what), due[what]);
        }
    }

    // ---- 6 LACKS

    @Says("6 LACKS: any LINE ahead of the hall; at its WORD")
    static void promise4_aLineAheadOfTheHall() {
        for (String line : LINES) {
            fault(line + ";" + HALL, 6, 0);
            fault("  " + line, 6, 2);
            fault(line.split(" ")[0], 6, 0);
            fault(line.split(" ")[0] + " ?", 6, 0);
        }
    }

    @Says("at the end: no speaker.")
    static void promise4_noSpeakerAtTheEnd() {
        fault(HALL, 6, 25);
        fault(HALL + "  ", 6, 27);
        String text = HALL + ";air 1 left 1;fog 2;lamp 0 1;member m flat seat 0 far 1 sharp 0 errs 0;"
                + "flight 0 far 1 lands 0";
        fault(text, 6, text.length());
        good(text + ";speaker s at 4 1");
    }

    // ---- which of several

    @Says("FAULTS, the first that is met from the left, of one place the least number")
    static void promise4_theFirstFromTheLeft() {
        fault("hall long 2 ?", 4, 10);
        fault("hall ? long 2", 1, 5);
        fault("hall long 13 rows 7 nose 10", 4, 10);
        fault(HALL + ";speaker s at 5 9", 4, 39);
        fault(PRE + "speaker s at 9 9", 3, 51);
        fault(PRE + "air 9 up 9", 4, 47);
        fault(PRE + "air 1 up 9", 1, 49);
        fault("fog ?;" + HALL + ";" + HALL, 6, 0);
        fault(HALL + ";fog 4;speaker hall", 4, 30);
    }

    @Says("FAULTS, the first that is met from the left, of one place the least number")
    static void promise4_ofOnePlaceTheLeast() {
        // The end: FORM goes ahead of no speaker.
        fault("", 1, 0);
        fault(HALL + ";", 1, 26);
        fault("hall long 5 rows", 1, 16);
        // No TOKEN goes ahead of out of bounds.
        fault("hall long 9999", 1, 10);
        // A WORD that begins no LINE goes ahead of a LINE ahead of the hall.
        fault("speakers s at 0 1", 1, 0);
    }
}
