import java.util.ArrayList;
import java.util.List;
import java.util.Random;

/** Texts of halls by chance, and texts that are spoiled somewhere. */
final class Halls {
    private static final String[] WORDS = {"hall", "air", "fog", "speaker", "member", "lamp", "flight",
        "long", "rows", "nose", "left", "right", "at", "plain", "stable", "loop", "flat", "seat", "far",
        "sharp", "errs", "lands", "a", "b", "abcdefgh", "abcdefghi", ";", "0", "1", "2", "3", "4", "7",
        "10", "12", "13", "100", "101", "999", "1000", "007", "?", "A", "\u00e9"};

    private final Random chance;

    Halls(Random chance) {
        this.chance = chance;
    }

    private int upTo(int n) {
        return chance.nextInt(n + 1);
    }

    String good() {
        int wide = 3 + upTo(9);
        int rows = 1 + upTo(5);
        if (chance.nextInt(3) == 0) {
            wide = 3 + upTo(2);
        }
        List<String> lines = new ArrayList<>();
        List<Integer> rowsLeft = new ArrayList<>();
        for (int row = 1; row <= rows; row++) {
            rowsLeft.add(row);
        }
        for (int fogs = upTo(3); fogs > 0 && !rowsLeft.isEmpty(); fogs--) {
            lines.add("fog " + pick(rowsLeft));
        }
        for (int n = upTo(rows); n > 0 && !rowsLeft.isEmpty(); n--) {
            lines.add("air " + pick(rowsLeft) + (chance.nextBoolean() ? " left " : " right ") + upTo(3));
        }
        List<String> spots = new ArrayList<>();
        for (int c = 0; c < wide; c++) {
            for (int r = 1; r <= rows; r++) {
                spots.add(c + " " + r);
            }
        }
        int names = 0;
        lines.add("speaker " + name(names++) + " at " + pick(spots));
        for (int n = upTo(3); n > 0 && !spots.isEmpty(); n--) {
            lines.add("speaker " + name(names++) + " at " + pick(spots));
        }
        for (int n = upTo(3); n > 0 && !spots.isEmpty(); n--) {
            lines.add("lamp " + pick(spots));
        }
        for (int n = chance.nextInt(3) == 0 ? upTo(6) : 3 + upTo(3); n > 0; n--) {
            lines.add(member(name(names++), wide, rows));
        }
        for (int n = chance.nextBoolean() ? 0 : upTo(5); n > 0; n--) {
            lines.add("flight " + upTo(wide - 1) + " far " + (1 + upTo(rows - 1)) + " lands " + upTo(wide - 1));
        }
        StringBuilder text = new StringBuilder("hall long " + wide + " rows " + rows + " nose " + (3 + upTo(6)));
        while (!lines.isEmpty()) {
            text.append(chance.nextInt(6) == 0 ? " ; " : ";").append(pick(lines));
        }
        return text.toString();
    }

    private String member(String name, int wide, int rows) {
        String[] folds = {"plain", "stable", "loop", "flat"};
        int[] errs = {0, 100, upTo(100), upTo(30), 50};
        return "member " + name + " " + folds[upTo(3)] + " seat " + upTo(wide - 1) + " far "
                + (1 + upTo(rows - 1)) + " sharp " + upTo(chance.nextBoolean() ? 4 : 9) + " errs "
                + errs[upTo(4)];
    }

    private String name(int n) {
        return "" + (char) ('a' + n) + (chance.nextInt(3) == 0 ? "bcdefgh" : "");
    }

    private <T> T pick(List<T> from) {
        return from.remove(chance.nextInt(from.size()));
    }

    String spoiled() {
        String text = good();
        for (int n = 1 + upTo(2); n > 0; n--) {
            text = spoil(text);
        }
        return text.length() > 900 ? text.substring(0, 900) : text;
    }

    private String spoil(String text) {
        int at = upTo(text.length());
        int to = Math.min(text.length(), at + upTo(4));
        String word = WORDS[chance.nextInt(WORDS.length)];
        switch (chance.nextInt(7)) {
            case 0:
                return text.substring(0, at);
            case 1:
                return text.substring(0, at) + text.substring(to);
            case 2:
                return text.substring(0, at) + " " + word + " " + text.substring(at);
            case 3:
                return text.substring(0, at) + word + text.substring(to);
            case 4:
                return swapToken(text, word);
            case 5:
                String[] lines = text.split(";", -1);
                return text + ";" + lines[chance.nextInt(lines.length)];
            default:
                String[] some = text.split(";", -1);
                some[chance.nextInt(some.length)] = some[chance.nextInt(some.length)];
                return String.join(";", some);
        }
    }

    private String swapToken(String text, String word) {
        String[] tokens = text.replace(";", " ; ").split(" +");
        tokens[chance.nextInt(tokens.length)] = word;
        return String.join(" ", tokens);
    }
}
