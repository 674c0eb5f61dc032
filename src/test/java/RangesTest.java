import java.util.function.IntUnaryOperator;

/** The least and the greatest of each range of the document, one beyond each, and the ends of int. */
public final class RangesTest {
    private static final int UNKNOWN = -1;
    private static final int BAD_VALUE = -2;
    private static final int NONE = -5;

    public static void main(String[] args) {
        columns();
        blocksOfAColumn();
        linesOfAColumn();
        ranksOfSharedBaselines();
        settings();
        paragraphs();
        heights();
        depths();
        steps();
        whatIsTold();
        whatCountTells();
        Due.end();
    }

    /** Asks with every number of a range, which is no error, and beyond it, which is the error. */
    private static void range(String call, int least, int greatest, int error, IntUnaryOperator answer) {
        for (int value = least; value <= greatest; value++) {
            int got = answer.applyAsInt(value);
            Due.is(call + " with " + value + " is an error", got == error ? 1 : 0, 0);
        }
        int[] beyond = {least - 1, greatest + 1, least - 1000000, greatest + 1000000, Integer.MIN_VALUE, Integer.MAX_VALUE};
        for (int value : beyond) {
            Due.is(call + " with " + value, answer.applyAsInt(value), error);
        }
    }

    private static BaselineGrid fresh() {
        return new BaselineGrid();
    }

    /** Each column has a paragraph of 2 lines and a picture, the text is good. */
    private static BaselineGrid filled() {
        BaselineGrid x = new BaselineGrid();
        for (int column = 0; column < 4; column++) {
            x.paragraph(column, 2, 100, 120, true);
            x.put(column, true, 50);
        }
        x.type('s');
        x.type('1');
        return x;
    }

    /** "column: 0 to 3", of every method that has one; another one is UNKNOWN. */
    private static void columns() {
        range("paragraph(c, ..)", 0, 3, UNKNOWN, c -> fresh().paragraph(c, 1, 40, 40, true));
        range("put(c, ..)", 0, 3, UNKNOWN, c -> fresh().put(c, true, 1));
        range("putAll(c)", 0, 3, UNKNOWN, c -> filled().putAll(c));
        range("remove(c, 0)", 0, 3, UNKNOWN, c -> filled().remove(c, 0));
        range("snap(c, 0, false)", 0, 3, UNKNOWN, c -> filled().snap(c, 0, false));
        range("flow(c)", 0, 3, UNKNOWN, c -> filled().flow(c));
        range("spread(c, 1)", 0, 3, UNKNOWN, c -> filled().spread(c, 1));
        range("block(c, 0, 0)", 0, 3, UNKNOWN, c -> filled().block(c, 0, 0));
        range("line(c, 0, 0)", 0, 3, UNKNOWN, c -> filled().line(c, 0, 0));
        range("column(c, 0)", 0, 3, UNKNOWN, c -> filled().column(c, 0));
        for (int c = 0; c < 4; c++) {
            BaselineGrid x = new BaselineGrid();
            x.paragraph(c, 1, 40, 40, true);
            for (int other = 0; other < 4; other++) {
                Due.is("blocks of " + other + " with one in " + c, x.column(other, 0), other == c ? 1 : 0);
            }
        }
    }

    private static BaselineGrid withPictures(int blocks) {
        BaselineGrid x = new BaselineGrid();
        for (int block = 0; block < blocks; block++) {
            x.put(1, true, 1 + block);
        }
        return x;
    }

    private static BaselineGrid withParagraphs(int blocks) {
        BaselineGrid x = new BaselineGrid();
        for (int block = 0; block < blocks; block++) {
            x.paragraph(1, 1, 40, 40 + block, true);
        }
        return x;
    }

    /** "block: a block of it": with 0 blocks none, with 16 those from 0 to 15. */
    private static void blocksOfAColumn() {
        for (int blocks : new int[] {0, 1, 2, 15, 16}) {
            int n = blocks;
            String of = " of " + blocks;
            range("remove(1, b)" + of, 0, n - 1, UNKNOWN, b -> withPictures(n).remove(1, b));
            range("snap(1, b, false)" + of, 0, n - 1, UNKNOWN, b -> withParagraphs(n).snap(1, b, false));
            range("block(1, b, 5)" + of, 0, n - 1, UNKNOWN, b -> withPictures(n).block(1, b, 5));
            for (int block = 0; block < n; block++) {
                Due.is("block(1, " + block + ", 5)" + of, withPictures(n).block(1, block, 5), 1 + block);
            }
        }
    }

    /** "line: a set line of the column, from 0": BAD_VALUE below 0, NONE if there are not so many. */
    private static void linesOfAColumn() {
        for (int lines = 1; lines <= 40; lines++) {
            BaselineGrid x = new BaselineGrid();
            x.paragraph(2, lines, 40, 40, false);
            String of = " of " + lines;
            Due.is("line 0" + of, x.line(2, 0, 0), 28);
            Due.is("the last line" + of, x.line(2, lines - 1, 0), 28 + 40 * (lines - 1));
            Due.is("one beyond the last line" + of, x.line(2, lines, 0), NONE);
            Due.is("line MAX" + of, x.line(2, Integer.MAX_VALUE, 0), NONE);
            Due.is("line -1" + of, x.line(2, -1, 0), BAD_VALUE);
            Due.is("line MIN" + of, x.line(2, Integer.MIN_VALUE, 0), BAD_VALUE);
        }
        Due.is("line 0 of an empty column", fresh().line(2, 0, 0), NONE);
        Due.is("line -1 of an empty column", fresh().line(2, -1, 0), BAD_VALUE);
    }

    /** "rank: from 0": BAD_VALUE below 0, NONE if there are not so many. */
    private static void ranksOfSharedBaselines() {
        for (int shared = 1; shared <= 40; shared++) {
            BaselineGrid x = new BaselineGrid();
            x.paragraph(0, shared, 40, 40, false);
            x.paragraph(1, 40, 40, 40, false);
            String of = " of " + shared;
            Due.is("rank 0" + of, x.shared(0, 0), 28);
            Due.is("the last rank" + of, x.shared(shared - 1, 0), 28 + 40 * (shared - 1));
            Due.is("one beyond the last rank" + of, x.shared(shared, 0), NONE);
            Due.is("one beyond the last rank, columns" + of, x.shared(shared, 1), NONE);
            Due.is("rank MAX" + of, x.shared(Integer.MAX_VALUE, 0), NONE);
            Due.is("rank -1" + of, x.shared(-1, 0), BAD_VALUE);
            Due.is("rank MIN" + of, x.shared(Integer.MIN_VALUE, 1), BAD_VALUE);
        }
        Due.is("rank 0 of none", fresh().shared(0, 0), NONE);
        Due.is("rank -1 of none", fresh().shared(-1, 0), BAD_VALUE);
    }

    /** "The settings are (in parentheses: range; first value)". */
    private static void settings() {
        int[] least = {200, 0, 20, 0, 1};
        int[] greatest = {9999, 500, 500, 1, 3};
        int[] first = {6000, 100, 120, 1, 2};
        for (int what = 0; what < 5; what++) {
            int setting = what;
            range("set(" + what + ", v)", least[what], greatest[what], BAD_VALUE, v -> fresh().set(setting, v));
            for (int value = least[what]; value <= greatest[what]; value++) {
                BaselineGrid x = new BaselineGrid();
                Due.is("set(" + what + ", " + value + ")", x.set(what, value), value == first[what] ? NONE : first[what]);
                Due.is("the setting then", x.count(10 + what), value);
            }
        }
        range("set(w, 1)", 0, 4, BAD_VALUE, w -> fresh().set(w, least[w < 0 || w > 4 ? 3 : w]));
    }

    /** "lines (1 to 40), a size (40 to 400), a leading (the size to 600)". */
    private static void paragraphs() {
        range("lines", 1, 40, BAD_VALUE, v -> fresh().paragraph(0, v, 100, 100, false));
        range("size", 40, 400, BAD_VALUE, v -> fresh().paragraph(0, 1, v, 600, false));
        range("size, with a leading of 120", 40, 120, BAD_VALUE, v -> fresh().paragraph(0, 1, v, 120, true));
        for (int size : new int[] {40, 41, 100, 399, 400}) {
            range("leading of " + size, size, 600, BAD_VALUE, v -> fresh().paragraph(0, 1, size, v, false));
        }
        for (int size = 40; size <= 400; size++) {
            BaselineGrid x = new BaselineGrid();
            Due.is("size and leading " + size, x.paragraph(0, 1, size, size, false), 0);
            Due.is("the size", x.block(0, 0, 2), size);
            Due.is("the leading", x.block(0, 0, 3), size);
            Due.is("leading 1 below the size", x.paragraph(0, 1, size, size - 1, false), BAD_VALUE);
        }
    }

    /** "a picture: a height (1 to 3000)", "a space: a height (1 to 3000)". */
    private static void heights() {
        range("height of a picture", 1, 3000, BAD_VALUE, v -> fresh().put(0, true, v));
        range("height of a space", 1, 3000, BAD_VALUE, v -> fresh().put(0, false, v));
    }

    /** "depth: 1 to 9999". */
    private static void depths() {
        range("depth, nothing to spread", 1, 9999, BAD_VALUE, v -> fresh().spread(0, v));
        BaselineGrid x = new BaselineGrid();
        x.set(0, 9999);
        x.set(3, 0);
        Due.types(x, "i1;s1;i1;s1;i1;s1;i1;s1;i1");
        x.putAll(0);
        Due.is("the end", x.column(0, 2), 9);
        Due.is("depth 10000", x.spread(0, 10000), BAD_VALUE);
        Due.is("depth 9999", x.spread(0, 9999), 9999);
        Due.is("depth 0", x.spread(0, 0), BAD_VALUE);
        Due.is("depth 1", x.spread(0, 1), NONE);
    }

    /** "step: 20 to 500", "from: 20 to 500", "to: from to 500". */
    private static void steps() {
        for (int what = 0; what < 3; what++) {
            int told = what;
            range("ifStep(s, " + what + ")", 20, 500, BAD_VALUE, s -> filled().ifStep(s, told));
        }
        range("bestStep(f, 500)", 20, 500, BAD_VALUE, f -> fresh().bestStep(f, 500));
        for (int from : new int[] {20, 21, 120, 499, 500}) {
            range("bestStep(" + from + ", t)", from, 500, BAD_VALUE, t -> fresh().bestStep(from, t));
        }
        for (int step = 20; step <= 500; step++) {
            Due.is("bestStep from a step to itself", filled().bestStep(step, step), step);
            Due.is("bestStep to one less", filled().bestStep(step, step - 1), BAD_VALUE);
        }
    }

    /** What block, line, column, shared and ifStep tell; another what is BAD_VALUE. */
    private static void whatIsTold() {
        range("block(0, 0, w)", 0, 8, BAD_VALUE, w -> filled().block(0, 0, w));
        range("line(0, 0, w)", 0, 4, BAD_VALUE, w -> filled().line(0, 0, w));
        range("column(0, w)", 0, 9, BAD_VALUE, w -> filled().column(0, w));
        range("shared(0, w)", 0, 1, BAD_VALUE, w -> filled().shared(0, w));
        range("ifStep(120, w)", 0, 2, BAD_VALUE, w -> filled().ifStep(120, w));
    }

    /** What count tells: 0 to 8 and 10 to 14; 9 is between them. */
    private static void whatCountTells() {
        range("count(w)", 10, 14, BAD_VALUE, w -> w >= 0 && w <= 8 ? fresh().count(9) : fresh().count(w));
        for (int what = 0; what <= 8; what++) {
            Due.is("count(" + what + ") is no error", filled().count(what) >= 0 ? 1 : 0, 1);
        }
        Due.is("count(9)", filled().count(9), BAD_VALUE);
        Due.is("count(15)", filled().count(15), BAD_VALUE);
        Due.is("count(-1)", filled().count(-1), BAD_VALUE);
    }
}
