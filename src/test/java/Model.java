import java.math.BigInteger;
import java.util.ArrayList;
import java.util.Arrays;
import java.util.HashMap;
import java.util.HashSet;
import java.util.List;
import java.util.Map;
import java.util.NoSuchElementException;
import java.util.Set;
import java.util.regex.Matcher;
import java.util.regex.Pattern;

/** The document once more, by counting everything out; PaperVote is held against it. */
final class Model {
    static final class State {
        List<int[]> speakers = new ArrayList<>();
        List<int[]> members = new ArrayList<>();
        Integer[] airs = new Integer[7];
        int[] won = new int[4];
        int held = 0;
        int seed = 0;

        State copy() {
            State c = new State();
            for (int[] s : speakers) {
                c.speakers.add(s.clone());
            }
            for (int[] m : members) {
                c.members.add(m.clone());
            }
            c.airs = airs.clone();
            c.won = won.clone();
            c.held = held;
            c.seed = seed;
            return c;
        }
    }

    static final class Told {
        int wide;
        int rows;
        int nose;
        List<int[]> lamps = new ArrayList<>();
        List<int[]> flights = new ArrayList<>();
        State state = new State();
    }

    private String tape = "";
    private Told h = null;
    private List<State> past = new ArrayList<>();
    private List<State> images = new ArrayList<>();
    private int trouble = 0;
    private int fault = 0;
    private int faultAt = -1;

    private static final Map<String, String[]> LINES = new HashMap<>();

    static {
        LINES.put("hall", "long 3-12 rows 1-6 nose 0-9".split(" "));
        LINES.put("air", "ROWAIR SIDE 0-3".split(" "));
        LINES.put("fog", "ROWAIR".split(" "));
        LINES.put("speaker", "NAME at COLUMN ROWPLACE".split(" "));
        LINES.put("member", "NAME FOLD seat COLUMN far ROW sharp 0-9 errs 0-100".split(" "));
        LINES.put("lamp", "COLUMN ROWPLACE".split(" "));
        LINES.put("flight", "COLUMN far ROW lands COLUMN".split(" "));
    }

    private static final List<String> FOLDS = Arrays.asList("plain", "stable", "loop", "flat");

    // ---- the hall

    int feed(int a, int b, int c, int d, int e) {
        if (tape.length() > 880) {
            return -1;
        }
        for (int v : new int[] {a, b, c, d, e}) {
            for (int k = 3; k >= 0; k--) {
                tape += (char) (v >>> 8 * k & 255);
            }
        }
        return tape.length();
    }

    int hall(int n) {
        if (n < 0 || n > tape.length()) {
            trouble = 2;
            return -1;
        }
        String text = tape.substring(0, n);
        tape = "";
        Told t = new Told();
        int[] f = parse(text, t);
        fault = f[0];
        if (fault != 0) {
            faultAt = f[1];
            trouble = 4;
            return -1;
        }
        h = t;
        past.clear();
        images.clear();
        trouble = 0;
        return h.state.speakers.size();
    }

    private static int[] parse(String text, Told t) {
        List<String> tokens = new ArrayList<>();
        List<Integer> at = new ArrayList<>();
        Matcher m = Pattern.compile("[a-z]+|[0-9]+|[^ ]", Pattern.DOTALL).matcher(text);
        while (m.find()) {
            tokens.add(m.group());
            at.add(m.start());
        }
        tokens.add("END");
        at.add(text.length());
        Map<String, Integer> many = new HashMap<>();
        Set<String> names = new HashSet<>();
        Set<String> airs = new HashSet<>();
        Set<String> spots = new HashSet<>();
        Map<String, Integer> room = Map.of("fog", 3, "speaker", 4, "member", 6, "lamp", 3, "flight", 5);
        int i = 0;
        for (int row = 1; row <= 6; row++) {
            t.state.airs[row] = 0;
        }
        while (true) {
            String word = tokens.get(i);
            if (!LINES.containsKey(word)) {
                return new int[] {1, at.get(i)};
            }
            if (word.equals("hall") && many.containsKey("hall")) {
                return new int[] {3, at.get(i)};
            }
            if (!word.equals("hall") && !many.containsKey("hall")) {
                return new int[] {6, at.get(i)};
            }
            if (room.containsKey(word) && many.getOrDefault(word, 0).equals(room.get(word))) {
                return new int[] {5, at.get(i)};
            }
            many.merge(word, 1, Integer::sum);
            i++;
            List<String> read = new ArrayList<>();
            for (String form : LINES.get(word)) {
                String token = tokens.get(i);
                int fault = judgeToken(token, form, t, read, names, airs, spots);
                if (fault != 0) {
                    return new int[] {fault, at.get(i)};
                }
                read.add(token);
                if (word.equals("hall") && read.size() == 2) {
                    t.wide = Integer.parseInt(token);
                }
                if (word.equals("hall") && read.size() == 4) {
                    t.rows = Integer.parseInt(token);
                }
                i++;
            }
            take(word, read, t);
            if (tokens.get(i).equals("END")) {
                return t.state.speakers.isEmpty() ? new int[] {6, at.get(i)} : new int[] {0, 0};
            }
            if (!tokens.get(i).equals(";")) {
                return new int[] {1, at.get(i)};
            }
            i++;
        }
    }

    private static int judgeToken(String token, String form, Told t, List<String> read,
            Set<String> names, Set<String> airs, Set<String> spots) {
        if (form.matches("[a-z]+")) {
            return token.equals(form) ? 0 : 1;
        }
        if (form.equals("SIDE")) {
            return token.equals("left") || token.equals("right") ? 0 : 1;
        }
        if (form.equals("FOLD")) {
            return FOLDS.contains(token) ? 0 : 1;
        }
        if (form.equals("NAME")) {
            if (!token.matches("[a-z]{1,8}") || LINES.containsKey(token)) {
                return 1;
            }
            return names.add(token) ? 0 : 3;
        }
        if (!token.matches("[0-9]{1,3}")) {
            return 1;
        }
        int low = form.startsWith("ROW") ? 1 : 0;
        int high = form.startsWith("ROW") ? t.rows : t.wide - 1;
        if (form.contains("-")) {
            low = Integer.parseInt(form.substring(0, form.indexOf('-')));
            high = Integer.parseInt(form.substring(form.indexOf('-') + 1));
        }
        int v = Integer.parseInt(token);
        if (v < low || v > high) {
            return 4;
        }
        if (form.equals("ROWAIR")) {
            return airs.add("" + v) ? 0 : 3;
        }
        if (form.equals("ROWPLACE")) {
            return spots.add(Integer.parseInt(read.get(read.size() - 1)) + "," + v) ? 0 : 3;
        }
        return 0;
    }

    private static void take(String word, List<String> r, Told t) {
        switch (word) {
            case "hall" -> t.nose = num(r, 5);
            case "air" -> t.state.airs[num(r, 0)] = r.get(1).equals("left") ? -num(r, 2) : num(r, 2);
            case "fog" -> t.state.airs[num(r, 0)] = null;
            case "speaker" -> t.state.speakers.add(new int[] {num(r, 2), num(r, 3)});
            case "member" -> t.state.members.add(new int[] {FOLDS.indexOf(r.get(1)), num(r, 3),
                num(r, 5), num(r, 7), num(r, 9)});
            case "lamp" -> t.lamps.add(new int[] {num(r, 0), num(r, 1)});
            default -> t.flights.add(new int[] {num(r, 0), num(r, 2), num(r, 4)});
        }
    }

    private static int num(List<String> r, int i) {
        return Integer.parseInt(r.get(i));
    }

    int fault() {
        return fault;
    }

    int where() {
        return trouble == 4 ? faultAt : -1;
    }

    // ---- helpers

    private int no(int t) {
        trouble = t;
        return -1;
    }

    private boolean isSpeaker(int s) {
        return h != null && s >= 0 && s < h.state.speakers.size();
    }

    private boolean isMember(int m) {
        return h != null && m >= 0 && m < h.state.members.size();
    }

    private boolean isColumn(int c) {
        return h != null && c >= 0 && c < h.wide;
    }

    private boolean isRow(int r) {
        return h != null && r >= 1 && r <= h.rows;
    }

    private int wall(int c) {
        return c < 0 ? 0 : c >= h.wide ? h.wide - 1 : c;
    }

    private int[] down(int fold, int seat, int far, Integer[] airs) {
        int c = seat;
        if (fold == 3) {
            return new int[] {c, far < 2 ? 1 : far / 2};
        }
        for (int r = 1; r <= far; r++) {
            int drift = airs[r] == null ? 0 : airs[r];
            int cells = fold == 1 ? Math.abs(drift) / 2 : Math.abs(drift);
            for (int k = 0; k < cells; k++) {
                c = wall(drift < 0 ? c - 1 : c + 1);
            }
        }
        return new int[] {fold == 2 ? h.wide - 1 - c : c, far};
    }

    private int[] down(int m) {
        int[] x = h.state.members.get(m);
        return down(x[0], x[1], x[2], h.state.airs);
    }

    private boolean lampAt(int c, int r) {
        return h.lamps.stream().anyMatch(l -> l[0] == c && l[1] == r);
    }

    private static int near(List<int[]> speakers, int c, int r) {
        int best = -1;
        for (int s = speakers.size() - 1; s >= 0; s--) {
            if (best < 0 || apart(speakers.get(s), c, r) <= apart(speakers.get(best), c, r)) {
                best = s;
            }
        }
        return best;
    }

    private static int apart(int[] p, int c, int r) {
        return Math.abs(p[0] - c) + Math.abs(p[1] - r);
    }

    private int ballot(int m, int c, int r, List<int[]> speakers) {
        return h.state.members.get(m)[3] > h.nose || lampAt(c, r) ? -2 : near(speakers, c, r);
    }

    private int ballot(int m) {
        return ballot(m, down(m)[0], down(m)[1], h.state.speakers);
    }

    private int ballotErr(int m, int err) {
        return ballot(m, wall(down(m)[0] + err), down(m)[1], h.state.speakers);
    }

    private int best(List<Integer> ballots) {
        int win = -2;
        long most = 0;
        for (int s = 0; s < h.state.speakers.size(); s++) {
            int who = s;
            long n = ballots.stream().filter(b -> b == who).count();
            if (n > most) {
                most = n;
                win = s;
            }
        }
        return win;
    }

    private List<Integer> ballots() {
        List<Integer> all = new ArrayList<>();
        for (int m = 0; m < h.state.members.size(); m++) {
            all.add(ballot(m));
        }
        return all;
    }

    // ---- now

    int speaker(int s, int what) {
        if (!isSpeaker(s) || what < 0 || what > 3) {
            return no(1);
        }
        trouble = 0;
        return new int[] {h.state.speakers.get(s)[0], h.state.speakers.get(s)[1], h.state.won[s],
            (int) ballots().stream().filter(b -> b == s).count()}[what];
    }

    int member(int m, int what) {
        if (!isMember(m) || what < 0 || what > 5) {
            return no(1);
        }
        trouble = 0;
        int[] x = h.state.members.get(m);
        return what < 5 ? x[what] : x[3] <= h.nose ? 1 : 0;
    }

    int air(int row) {
        if (!isRow(row)) {
            return no(1);
        }
        trouble = 0;
        return h.state.airs[row] == null ? 7 : h.state.airs[row] + 3;
    }

    int lamp(int column, int row) {
        if (!isColumn(column) || !isRow(row)) {
            return no(1);
        }
        trouble = 0;
        return lampAt(column, row) ? 1 : 0;
    }

    int lands(int m) {
        if (!isMember(m)) {
            return no(1);
        }
        trouble = 0;
        return 10 * down(m)[0] + down(m)[1];
    }

    int votes(int m) {
        if (!isMember(m)) {
            return no(1);
        }
        trouble = 0;
        return ballot(m);
    }

    int nearest(int column, int row) {
        if (!isColumn(column) || !isRow(row)) {
            return no(1);
        }
        trouble = 0;
        return near(h.state.speakers, column, row);
    }

    private boolean noHall() {
        trouble = h == null ? 1 : 0;
        return h == null;
    }

    int winner() {
        return noHall() ? -1 : best(ballots());
    }

    int counted() {
        return noHall() ? -1 : (int) ballots().stream().filter(b -> b >= 0).count();
    }

    int hang() {
        if (noHall()) {
            return -1;
        }
        int bits = 0;
        for (int m = 0; m < h.state.members.size(); m++) {
            bits += lampAt(down(m)[0], down(m)[1]) ? 1 << m : 0;
        }
        return bits;
    }

    int thickest() {
        if (noHall()) {
            return -1;
        }
        int[] heap = new int[100];
        for (int m = 0; m < h.state.members.size(); m++) {
            heap[down(m)[1] * 12 + down(m)[0]]++;
        }
        int best = -1;
        for (int i = 99; i >= 0; i--) {
            if (heap[i] > 0 && (best < 0 || heap[i] >= heap[best])) {
                best = i;
            }
        }
        return best < 0 ? -2 : best % 12 * 10 + best / 12;
    }

    // ---- odds

    private static long part(BigInteger up, BigInteger low, boolean lower) {
        BigInteger g = up.gcd(low);
        return (lower ? low : up).divide(g).longValueExact();
    }

    private int parts(int m, int err) {
        int errs = h.state.members.get(m)[4];
        return err == 0 ? 200 - 2 * errs : errs;
    }

    /** Every row of errors with its weight of 200 to the power of members. */
    private interface Seen {
        void seen(List<Integer> ballots, BigInteger weight);
    }

    private void all(Seen seen) {
        int n = h.state.members.size();
        for (int code = 0; code < Math.pow(3, n); code++) {
            int rest = code;
            BigInteger w = BigInteger.ONE;
            List<Integer> b = new ArrayList<>();
            for (int m = 0; m < n; m++) {
                int err = rest % 3 - 1;
                rest /= 3;
                w = w.multiply(BigInteger.valueOf(parts(m, err)));
                b.add(ballotErr(m, err));
            }
            seen.seen(b, w);
        }
    }

    private BigInteger[] winning() {
        BigInteger[] sums = new BigInteger[4];
        Arrays.fill(sums, BigInteger.ZERO);
        all((b, w) -> {
            int s = best(b);
            if (s >= 0) {
                sums[s] = sums[s].add(w);
            }
        });
        return sums;
    }

    private BigInteger whole() {
        return BigInteger.valueOf(200).pow(h.state.members.size());
    }

    private int chance(int m, int fold, int seat, int far, int s) {
        int[] p = down(fold, seat, far, h.state.airs);
        int sum = 0;
        for (int err = -1; err <= 1; err++) {
            sum += ballot(m, wall(p[0] + err), p[1], h.state.speakers) == s ? parts(m, err) : 0;
        }
        return sum;
    }

    private int chance(int m, int s) {
        int[] x = h.state.members.get(m);
        return chance(m, x[0], x[1], x[2], s);
    }

    long likely(int m, int s, boolean lower) {
        if (!isMember(m) || !isSpeaker(s)) {
            return no(1);
        }
        trouble = 0;
        return part(BigInteger.valueOf(chance(m, s)), BigInteger.valueOf(200), lower);
    }

    long wins(int s, boolean lower) {
        if (!isSpeaker(s)) {
            return no(1);
        }
        trouble = 0;
        return part(winning()[s], whole(), lower);
    }

    long just(int s, int many, boolean lower) {
        if (!isSpeaker(s)) {
            return no(1);
        }
        if (many < 0 || many > 6) {
            return no(2);
        }
        trouble = 0;
        BigInteger[] sum = {BigInteger.ZERO};
        all((b, w) -> {
            if (b.stream().filter(v -> v == s).count() == many) {
                sum[0] = sum[0].add(w);
            }
        });
        return part(sum[0], whole(), lower);
    }

    long mean(int s, boolean lower) {
        if (!isSpeaker(s)) {
            return no(1);
        }
        trouble = 0;
        BigInteger[] sum = {BigInteger.ZERO};
        all((b, w) -> sum[0] = sum[0].add(w.multiply(
                BigInteger.valueOf(b.stream().filter(v -> v == s).count()))));
        return part(sum[0], whole(), lower);
    }

    int favourite() {
        if (noHall()) {
            return -1;
        }
        BigInteger[] w = winning();
        int best = -2;
        for (int s = 3; s >= 0; s--) {
            if (w[s].signum() > 0 && (best < 0 || w[s].compareTo(w[best]) >= 0)) {
                best = s;
            }
        }
        return best;
    }

    // ---- folds, places

    private int[] folds(int m, int s) {
        int[] best = null;
        for (int fold = 0; fold < 4; fold++) {
            for (int row = 1; row <= h.rows; row++) {
                int c = chance(m, fold, h.state.members.get(m)[1], row, s);
                if (best == null || c > best[1]) {
                    best = new int[] {10 * fold + row, c};
                }
            }
        }
        return best;
    }

    int bestFold(int m, int s) {
        if (!isMember(m) || !isSpeaker(s)) {
            return no(1);
        }
        trouble = 0;
        return folds(m, s)[0];
    }

    long bestLikely(int m, int s, boolean lower) {
        if (!isMember(m) || !isSpeaker(s)) {
            return no(1);
        }
        trouble = 0;
        return part(BigInteger.valueOf(folds(m, s)[1]), BigInteger.valueOf(200), lower);
    }

    int bestSeat(int m, int s) {
        if (!isMember(m) || !isSpeaker(s)) {
            return no(1);
        }
        trouble = 0;
        int[] x = h.state.members.get(m);
        int best = h.wide - 1;
        for (int seat = h.wide - 1; seat >= 0; seat--) {
            if (chance(m, x[0], seat, x[2], s) >= chance(m, x[0], best, x[2], s)) {
                best = seat;
            }
        }
        return best;
    }

    private int has(List<int[]> speakers, int s) {
        int sum = 0;
        for (int m = 0; m < h.state.members.size(); m++) {
            sum += ballot(m, down(m)[0], down(m)[1], speakers) == s ? 1 : 0;
        }
        return sum;
    }

    private int[] places(int s) {
        int[] best = null;
        for (int row = 1; row <= h.rows; row++) {
            for (int column = 0; column < h.wide; column++) {
                List<int[]> moved = h.state.copy().speakers;
                moved.set(s, new int[] {column, row});
                Set<String> spots = new HashSet<>();
                moved.forEach(p -> spots.add(p[0] + "," + p[1]));
                if (lampAt(column, row) || spots.size() < moved.size()) {
                    continue;
                }
                int has = has(moved, s);
                if (best == null || has > best[1]) {
                    best = new int[] {10 * column + row, has};
                }
            }
        }
        return best;
    }

    int place(int s) {
        if (!isSpeaker(s)) {
            return no(1);
        }
        trouble = 0;
        return places(s)[0];
    }

    int placeVotes(int s) {
        if (!isSpeaker(s)) {
            return no(1);
        }
        trouble = 0;
        return places(s)[1];
    }

    private int play(int s, int column, int other, int others, int who) {
        List<int[]> moved = h.state.copy().speakers;
        moved.get(s)[0] = column;
        moved.get(other)[0] = others;
        return has(moved, who);
    }

    int game(int s, int column, int other, int others, boolean ofOther) {
        if (!isSpeaker(s) || !isSpeaker(other) || s == other || !isColumn(column) || !isColumn(others)) {
            return no(1);
        }
        trouble = 0;
        return play(s, column, other, others, ofOther ? other : s);
    }

    private List<Integer> restList(int s, int other) {
        List<Integer> found = new ArrayList<>();
        for (int a = 0; a < h.wide; a++) {
            for (int b = 0; b < h.wide; b++) {
                boolean rest = true;
                for (int k = 0; k < h.wide && rest; k++) {
                    rest = play(s, k, other, b, s) <= play(s, a, other, b, s)
                            && play(s, a, other, k, other) <= play(s, a, other, b, other);
                }
                if (rest) {
                    found.add(100 * a + b);
                }
            }
        }
        return found;
    }

    int rests(int s, int other) {
        if (!isSpeaker(s) || !isSpeaker(other) || s == other) {
            return no(1);
        }
        trouble = 0;
        return restList(s, other).size();
    }

    int rest(int s, int other) {
        if (!isSpeaker(s) || !isSpeaker(other) || s == other) {
            return no(1);
        }
        trouble = 0;
        List<Integer> found = restList(s, other);
        return found.isEmpty() ? -2 : found.get(0);
    }

    // ---- airs

    private List<Integer[]> airList() {
        List<Integer[]> open = new ArrayList<>();
        open.add(h.state.airs.clone());
        for (int row = 1; row <= h.rows; row++) {
            if (h.state.airs[row] == null) {
                List<Integer[]> more = new ArrayList<>();
                for (Integer[] a : open) {
                    for (int d = -2; d <= 2; d++) {
                        Integer[] b = a.clone();
                        b[row] = d;
                        more.add(b);
                    }
                }
                open = more;
            }
        }
        open.removeIf(a -> h.flights.stream().anyMatch(f -> down(0, f[0], f[1], a)[0] != f[2]));
        return open;
    }

    private int unknown() {
        int n = 0;
        for (int row = 1; row <= h.rows; row++) {
            n += h.state.airs[row] == null ? 1 : 0;
        }
        return n;
    }

    int airs() {
        return noHall() ? -1 : airList().size();
    }

    private int bits(int row) {
        int bits = 0;
        for (Integer[] a : airList()) {
            bits |= 1 << a[row] + 2;
        }
        return bits;
    }

    int could(int row) {
        if (!isRow(row)) {
            return no(1);
        }
        if (h.state.airs[row] != null) {
            return no(5);
        }
        trouble = 0;
        return bits(row);
    }

    int surely(int row) {
        if (!isRow(row)) {
            return no(1);
        }
        if (h.state.airs[row] != null) {
            return no(5);
        }
        trouble = 0;
        int bits = bits(row);
        return Integer.bitCount(bits) == 1 ? Integer.numberOfTrailingZeros(bits) : -2;
    }

    private int[] throwing() {
        List<Integer[]> airs = airList();
        int[] best = null;
        for (int seat = 0; seat < h.wide; seat++) {
            for (int row = 1; row <= h.rows; row++) {
                int[] heap = new int[12];
                for (Integer[] a : airs) {
                    heap[down(0, seat, row, a)[0]]++;
                }
                int most = Arrays.stream(heap).max().getAsInt();
                if (best == null || most < best[1]) {
                    best = new int[] {10 * seat + row, most};
                }
            }
        }
        return airs.isEmpty() ? new int[] {-2, -2} : best;
    }

    int toThrow() {
        return h == null ? no(1) : unknown() == 0 ? no(6) : told(throwing()[0]);
    }

    int throwLeaves() {
        return h == null ? no(1) : unknown() == 0 ? no(6) : told(throwing()[1]);
    }

    private int told(int v) {
        trouble = 0;
        return v;
    }

    int judge() {
        if (noHall()) {
            return -1;
        }
        for (int[] f : h.flights) {
            if (down(0, f[0], f[1], h.state.airs)[0] != f[2]) {
                return h.flights.indexOf(f);
            }
        }
        return -2;
    }

    // ---- power, the rake

    private int pow(int m) {
        int n = h.state.members.size();
        int sum = 0;
        for (int set = 0; set < 1 << n; set++) {
            if ((set & 1 << m) != 0) {
                List<Integer> with = new ArrayList<>();
                List<Integer> without = new ArrayList<>();
                for (int k = 0; k < n; k++) {
                    if ((set & 1 << k) != 0) {
                        with.add(ballot(k));
                        if (k != m) {
                            without.add(ballot(k));
                        }
                    }
                }
                sum += best(with) != best(without) ? 1 : 0;
            }
        }
        return sum;
    }

    int power(int m) {
        return isMember(m) ? told(pow(m)) : no(1);
    }

    int mighty() {
        if (noHall()) {
            return -1;
        }
        int best = -2;
        for (int m = h.state.members.size() - 1; m >= 0; m--) {
            if (pow(m) > 0 && (best < 0 || pow(m) >= pow(best))) {
                best = m;
            }
        }
        return best;
    }

    int rake() {
        if (noHall()) {
            return -1;
        }
        // Ways of sets: the fewest steps to have been at all of a set, the last place being m.
        int n = h.state.members.size();
        if (n == 0) {
            return 0;
        }
        int[][] way = new int[1 << n][n];
        for (int set = 1; set < 1 << n; set++) {
            for (int m = 0; m < n; m++) {
                way[set][m] = 1 << 20;
                if ((set & 1 << m) == 0) {
                    continue;
                }
                int rest = set & ~(1 << m);
                if (rest == 0) {
                    way[set][m] = down(m)[0] + down(m)[1];
                }
                for (int k = 0; k < n; k++) {
                    if ((rest & 1 << k) != 0) {
                        way[set][m] = Math.min(way[set][m],
                                way[rest][k] + apart(down(k), down(m)[0], down(m)[1]));
                    }
                }
            }
        }
        int least = 1 << 20;
        for (int m = 0; m < n; m++) {
            least = Math.min(least, way[(1 << n) - 1][m] + down(m)[0] + down(m)[1]);
        }
        return least;
    }

    // ---- sessions by draws

    private int running = 0;

    private List<Integer> one() {
        List<Integer> b = new ArrayList<>();
        for (int m = 0; m < h.state.members.size(); m++) {
            running = (int) ((75L * running + 74) % 65537);
            int d = running % 200;
            int errs = h.state.members.get(m)[4];
            b.add(ballotErr(m, d < errs ? -1 : d < 2 * errs ? 1 : 0));
        }
        return b;
    }

    private boolean badRun(int seed, int n) {
        boolean bad = seed < 0 || seed > 65536 || n < 1 || n > 90;
        trouble = bad ? 2 : 0;
        return bad;
    }

    int sessions(int s, int seed, int n) {
        if (!isSpeaker(s)) {
            return no(1);
        }
        if (badRun(seed, n)) {
            return -1;
        }
        running = seed;
        int sum = 0;
        for (int i = 0; i < n; i++) {
            sum += best(one()) == s ? 1 : 0;
        }
        return sum;
    }

    int darts(int seed, int n) {
        if (h == null) {
            return no(1);
        }
        if (badRun(seed, n)) {
            return -1;
        }
        running = seed;
        int sum = 0;
        for (int i = 0; i < n; i++) {
            sum += (int) one().stream().filter(b -> b >= 0).count();
        }
        return sum;
    }

    int lucky(int m, int seed, int n) {
        if (!isMember(m)) {
            return no(1);
        }
        if (badRun(seed, n)) {
            return -1;
        }
        running = seed;
        int sum = 0;
        for (int i = 0; i < n; i++) {
            List<Integer> b = one();
            sum += b.get(m) >= 0 && b.get(m) == best(b) ? 1 : 0;
        }
        return sum;
    }

    // ---- acts

    private void act() {
        past.add(h.state.copy());
        if (past.size() > 16) {
            past.remove(0);
        }
        trouble = 0;
    }

    private boolean nay(int t) {
        trouble = t;
        return false;
    }

    private boolean memberAct(int m, int what, int v) {
        if (h.state.members.get(m)[what] == v) {
            return nay(5);
        }
        act();
        h.state.members.get(m)[what] = v;
        return true;
    }

    boolean sit(int m, int column) {
        return !isMember(m) || !isColumn(column) ? nay(1) : memberAct(m, 1, column);
    }

    boolean fold(int m, int fold) {
        return !isMember(m) ? nay(1) : fold < 0 || fold > 3 ? nay(2) : memberAct(m, 0, fold);
    }

    boolean aim(int m, int row) {
        return !isMember(m) || !isRow(row) ? nay(1) : memberAct(m, 2, row);
    }

    boolean warm(int row, int drift) {
        if (!isRow(row)) {
            return nay(1);
        }
        if (drift < 0 || drift > 6) {
            return nay(2);
        }
        if (air(row) == drift) {
            return nay(5);
        }
        act();
        h.state.airs[row] = drift - 3;
        return true;
    }

    boolean stand(int s, int column, int row) {
        if (!isSpeaker(s) || !isColumn(column) || !isRow(row)) {
            return nay(1);
        }
        if (lampAt(column, row) || h.state.speakers.stream().anyMatch(p -> p[0] == column && p[1] == row)) {
            return nay(5);
        }
        act();
        h.state.speakers.set(s, new int[] {column, row});
        return true;
    }

    int session() {
        if (noHall()) {
            return -1;
        }
        act();
        running = h.state.seed;
        int w = best(one());
        h.state.seed = running;
        h.state.held++;
        if (w >= 0) {
            h.state.won[w]++;
        }
        return w;
    }

    boolean seed(int v) {
        if (h == null) {
            return nay(1);
        }
        if (v < 0 || v > 65536) {
            return nay(2);
        }
        trouble = 0;
        h.state.seed = v;
        return true;
    }

    boolean undo() {
        if (past.isEmpty()) {
            return nay(6);
        }
        trouble = 0;
        h.state = past.remove(past.size() - 1);
        return true;
    }

    int image() {
        if (h == null) {
            return no(1);
        }
        if (images.size() == 3) {
            return no(3);
        }
        trouble = 0;
        images.add(h.state.copy());
        return images.size() - 1;
    }

    boolean back(int image) {
        if (image < 0 || image >= images.size()) {
            return nay(1);
        }
        trouble = 0;
        h.state = images.get(image).copy();
        past.clear();
        return true;
    }

    // ---- what is told

    int led(int i) {
        List<Integer> who = new ArrayList<>();
        if (h != null) {
            int w = best(ballots());
            for (int m = 0; m < h.state.members.size(); m++) {
                if (w >= 0 && ballot(m) == w) {
                    who.add(m);
                }
            }
        }
        if (i < 0 || i >= who.size()) {
            throw new NoSuchElementException();
        }
        return who.get(i);
    }

    int size(int what) {
        if (what < 0 || what > 12) {
            return -1;
        }
        if (what == 12) {
            return tape.length();
        }
        if (h == null) {
            return 0;
        }
        return new int[] {h.wide, h.rows, h.nose, h.state.speakers.size(), h.state.members.size(),
            h.lamps.size(), h.flights.size(), unknown(), h.state.held, h.state.seed, past.size(),
            images.size()}[what];
    }

    int trouble() {
        return trouble;
    }
}
