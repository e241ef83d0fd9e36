import java.nio.charset.StandardCharsets;
import java.util.NoSuchElementException;

/** What the tests share: texts brought to THE TAPE, and answers held against those that are due. */
final class Check {
    private int wrong = 0;
    private String about = "";

    void about(String text) {
        about = text;
    }

    void due(String call, long got, long want) {
        if (got != want) {
            fail(call + " answered " + got + ", due is " + want);
        }
    }

    void due(String call, boolean got, boolean want) {
        due(call, got ? 1 : 0, want ? 1 : 0);
    }

    void dueTrouble(PaperVote x, String call, long got, long want, int trouble) {
        due(call, got, want);
        due("trouble() behind " + call, x.trouble(), trouble);
    }

    void dueTrouble(PaperVote x, String call, boolean got, boolean want, int trouble) {
        dueTrouble(x, call, got ? 1 : 0, want ? 1 : 0, trouble);
    }

    void dueNoLed(PaperVote x, int i) {
        boolean thrown = false;
        try {
            x.led(i);
        } catch (NoSuchElementException e) {
            thrown = true;
        }
        due("led(" + i + ") throws", thrown, true);
    }

    void dueFraction(String call, long upper, long lower, long wantUpper, long wantLower) {
        due(call + ", upper", upper, wantUpper);
        due(call + ", lower", lower, wantLower);
    }

    /** A refused call: NONE by a number, and all is as it was. */
    void dueRefused(PaperVote x, String call, String before, long got, int trouble) {
        dueTrouble(x, call, got, -1, trouble);
        dueSame(x, call, before);
    }

    void dueRefused(PaperVote x, String call, String before, boolean got, int trouble) {
        dueTrouble(x, call, got, false, trouble);
        dueSame(x, call, before);
    }

    /** All that can be seen is as it was when before was taken by stateOf. */
    void dueSame(PaperVote x, String call, String before) {
        String behind = stateOf(x);
        if (!behind.equals(before)) {
            fail("behind " + call + " there is " + behind + ", not " + before);
        }
    }

    void fail(String text) {
        wrong++;
        System.out.println(about + ": " + text);
    }

    /** What acts, sessions, halls and images change, as a text; some fifty calls. */
    static String stateOf(PaperVote x) {
        StringBuilder text = new StringBuilder("sizes");
        for (int what = 0; what <= 12; what++) {
            text.append(' ').append(x.size(what));
        }
        for (int s = 0; s < x.size(3); s++) {
            text.append(" speaker ").append(x.speaker(s, 0)).append(' ').append(x.speaker(s, 1));
            text.append(' ').append(x.speaker(s, 2));
        }
        for (int m = 0; m < x.size(4); m++) {
            text.append(" member ").append(x.member(m, 0)).append(' ').append(x.member(m, 1));
            text.append(' ').append(x.member(m, 2));
        }
        for (int row = 1; row <= x.size(1); row++) {
            text.append(" air ").append(x.air(row));
        }
        return text.toString();
    }

    void finish() {
        System.out.println(wrong == 0 ? "all answers are as due" : wrong + " answers are not as due");
        if (wrong != 0) {
            System.exit(1);
        }
    }

    static int[] fives(String text) {
        byte[] bytes = text.getBytes(StandardCharsets.ISO_8859_1);
        int[] numbers = new int[(bytes.length + 19) / 20 * 5];
        for (int i = 0; i < numbers.length * 4; i++) {
            int b = i < bytes.length ? bytes[i] & 255 : ' ';
            numbers[i / 4] = numbers[i / 4] << 8 | b;
        }
        return numbers;
    }

    static void feedText(PaperVote x, String text) {
        int[] n = fives(text);
        for (int i = 0; i < n.length; i += 5) {
            x.feed(n[i], n[i + 1], n[i + 2], n[i + 3], n[i + 4]);
        }
    }

    static int tell(PaperVote x, String text) {
        feedText(x, text);
        return x.hall(text.length());
    }

    static PaperVote told(String text) {
        PaperVote x = new PaperVote();
        if (tell(x, text) < 0) {
            throw new IllegalStateException("fault " + x.fault() + " at " + x.where() + ": " + text);
        }
        return x;
    }
}
