/** Promises 3, 4, 6, 7: paragraph, put, remove, snap; and how a column is set. */
public final class BlocksTest {
    public static void main(String[] args) {
        paragraphRanges();
        wrongParagraphs();
        putRanges();
        fullColumn();
        removing();
        snapping();
        settingLines();
        settingPicturesAndSpaces();
        overflowing();
        Due.end();
    }

    private static void paragraphRanges() {
        BaselineGrid x = new BaselineGrid();
        Due.is("least", x.paragraph(0, 1, 40, 40, false), 0);
        Due.is("greatest", x.paragraph(0, 40, 400, 600, true), 1);
        Due.is("column 3", x.paragraph(3, 40, 400, 400, false), 0);
        int[] least = {0, 1, 40, 40, 0};
        int[] greatest = {0, 40, 400, 600, 1};
        for (int what = 0; what < 5; what++) {
            Due.is("block(0, 0, " + what + ")", x.block(0, 0, what), least[what]);
            Due.is("block(0, 1, " + what + ")", x.block(0, 1, what), greatest[what]);
        }
        Due.is("count(7)", x.count(7), 3);
    }

    private static void wrongParagraphs() {
        BaselineGrid x = new BaselineGrid();
        Due.is("column -1", x.paragraph(-1, 1, 40, 40, false), -1);
        Due.is("column 4", x.paragraph(4, 0, 0, 0, false), -1);
        Due.is("column MIN", x.paragraph(Integer.MIN_VALUE, 1, 40, 40, false), -1);
        Due.is("lines 0", x.paragraph(0, 0, 40, 40, false), -2);
        Due.is("lines 41", x.paragraph(0, 41, 40, 40, false), -2);
        Due.is("lines MAX", x.paragraph(0, Integer.MAX_VALUE, 40, 40, false), -2);
        Due.is("size 39", x.paragraph(0, 1, 39, 40, false), -2);
        Due.is("size 401", x.paragraph(0, 1, 401, 401, false), -2);
        Due.is("leading 601", x.paragraph(0, 1, 400, 601, false), -2);
        Due.is("leading below the size", x.paragraph(0, 1, 100, 99, false), -2);
        Due.is("leading MIN", x.paragraph(0, 1, 40, Integer.MIN_VALUE, true), -2);
        Due.is("count(0)", x.count(0), 0);
        Due.is("count(7)", x.count(7), 0);
    }

    private static void putRanges() {
        BaselineGrid x = new BaselineGrid();
        Due.is("picture 1", x.put(1, true, 1), 0);
        Due.is("space 3000", x.put(1, false, 3000), 1);
        Due.is("kind of a picture", x.block(1, 0, 0), 1);
        Due.is("kind of a space", x.block(1, 1, 0), 2);
        Due.is("height of a picture", x.block(1, 0, 5), 1);
        Due.is("height of a space", x.block(1, 1, 5), 3000);
        Due.is("column 4", x.put(4, true, 0), -1);
        Due.is("column -1", x.put(-1, false, 1), -1);
        Due.is("height 0", x.put(0, true, 0), -2);
        Due.is("height 3001", x.put(0, false, 3001), -2);
        Due.is("height MIN", x.put(0, false, Integer.MIN_VALUE), -2);
        Due.is("count(7)", x.count(7), 2);
    }

    private static void fullColumn() {
        BaselineGrid x = new BaselineGrid();
        for (int block = 0; block < 16; block++) {
            Due.is("block " + block, x.put(2, true, 10 + block), block);
        }
        Due.is("put into a full column", x.put(2, true, 1), -3);
        Due.is("paragraph into a full column", x.paragraph(2, 1, 40, 40, true), -3);
        Due.is("a bad height ahead of FULL", x.put(2, true, 3001), -2);
        Due.is("bad lines ahead of FULL", x.paragraph(2, 41, 40, 40, true), -2);
        Due.is("column 3 beside a full one", x.block(3, 0, 0), -1);
        Due.is("column 1 beside a full one", x.block(1, 15, 0), -1);
        Due.is("the last block", x.block(2, 15, 5), 25);
        Due.is("a block behind the last one", x.block(2, 16, 5), -1);
        Due.is("remove the first", x.remove(2, 0), 15);
        Due.is("the last block then", x.block(2, 14, 5), 25);
        Due.is("put again", x.put(2, false, 77), 15);
        Due.is("count(7)", x.count(7), 4);
    }

    private static void removing() {
        BaselineGrid x = new BaselineGrid();
        x.paragraph(0, 1, 50, 60, false);
        x.put(0, true, 70);
        x.put(0, false, 80);
        x.put(1, true, 90);
        Due.is("remove(-1, 0)", x.remove(-1, 0), -1);
        Due.is("remove(4, 0)", x.remove(4, 0), -1);
        Due.is("remove(0, -1)", x.remove(0, -1), -1);
        Due.is("remove(0, 3)", x.remove(0, 3), -1);
        Due.is("remove(0, MAX)", x.remove(0, Integer.MAX_VALUE), -1);
        Due.is("remove(2, 0)", x.remove(2, 0), -1);
        Due.is("remove(0, 1)", x.remove(0, 1), 2);
        Due.is("the block behind it", x.block(0, 1, 5), 80);
        Due.is("the block ahead of it", x.block(0, 0, 2), 50);
        Due.is("end", x.column(0, 2), 130);
        Due.is("remove(0, 1) again", x.remove(0, 1), 1);
        Due.is("remove(0, 0)", x.remove(0, 0), 0);
        Due.is("an empty column", x.remove(0, 0), -1);
        Due.is("the other column", x.block(1, 0, 5), 90);
        Due.is("count(7)", x.count(7), 4);
    }

    private static void snapping() {
        BaselineGrid x = new BaselineGrid();
        x.paragraph(0, 4, 90, 110, false);
        x.paragraph(0, 3, 100, 120, true);
        x.put(0, true, 10);
        x.put(0, false, 10);
        Due.is("snap(4, 0, true)", x.snap(4, 0, true), -1);
        Due.is("snap(-1, 0, true)", x.snap(-1, 0, true), -1);
        Due.is("snap(0, 4, true)", x.snap(0, 4, true), -1);
        Due.is("snap(0, -1, true)", x.snap(0, -1, true), -1);
        Due.is("a picture", x.snap(0, 2, true), -4);
        Due.is("a space", x.snap(0, 3, false), -4);
        Due.is("snapped already", x.snap(0, 1, true), -5);
        Due.is("unsnapped already", x.snap(0, 0, false), -5);
        Due.is("count(7)", x.count(7), 4);
        x.remove(0, 3);
        x.remove(0, 2);
        Due.is("snap(0, 0, true)", x.snap(0, 0, true), 850);
        Due.is("snapped then", x.block(0, 0, 4), 1);
        Due.is("snap(0, 1, false)", x.snap(0, 1, false), 827);
        Due.is("unsnapped then", x.block(0, 1, 4), 0);
        Due.is("snap(0, 0, false)", x.snap(0, 0, false), 760);
        Due.is("undo()", x.undo(), 3);
        Due.is("end after undo", x.column(0, 2), 827);
    }

    private static void settingLines() {
        BaselineGrid x = new BaselineGrid();
        x.paragraph(0, 2, 45, 47, false);
        x.paragraph(0, 2, 99, 130, true);
        // 45: ascent 31, descent 13; 99: ascent 69, descent 29.
        int[] due = {31, 78, 220, 460};
        for (int line = 0; line < 4; line++) {
            Due.is("baseline " + line, x.line(0, line, 0), due[line]);
        }
        Due.is("cursor behind block 0", x.block(0, 0, 7), 91);
        Due.is("cursor ahead of block 1", x.block(0, 1, 6), 91);
        Due.is("end", x.column(0, 2), 489);
        x.set(1, 79);
        Due.is("unsnapped lines do not move", x.line(0, 1, 0), 78);
        Due.is("snapped line with first 79", x.line(0, 2, 0), 199);
        x.set(1, 160);
        Due.is("a line that is on the grid already", x.line(0, 2, 0), 160);
        Due.is("the next one, 290", x.line(0, 3, 0), 400);
        x.set(1, 161);
        Due.is("a line that is 1 above", x.line(0, 2, 0), 161);
        x.set(1, 500);
        Due.is("a line far above the first baseline", x.line(0, 2, 0), 500);
        Due.is("the line behind that", x.line(0, 3, 0), 740);
    }

    private static void settingPicturesAndSpaces() {
        BaselineGrid x = new BaselineGrid();
        x.put(0, false, 300);
        Due.is("a space at the top", x.column(0, 2), 0);
        Due.is("it is set", x.block(0, 0, 8), 1);
        x.put(0, false, 10);
        Due.is("two spaces at the top", x.column(0, 2), 0);
        x.put(0, true, 30);
        Due.is("a picture, to the first baseline", x.column(0, 2), 100);
        x.put(0, true, 120);
        Due.is("a picture that ends on the grid", x.column(0, 2), 220);
        x.put(0, true, 121);
        Due.is("a picture that ends 1 below", x.column(0, 2), 460);
        x.put(0, false, 7);
        Due.is("a space is not rounded", x.column(0, 2), 467);
        x.set(3, 0);
        Due.is("without rounding", x.column(0, 2), 278);
        x.set(3, 1);
        x.set(1, 0);
        Due.is("first baseline 0", x.block(0, 2, 7), 120);
    }

    private static void overflowing() {
        BaselineGrid x = new BaselineGrid();
        x.set(0, 500);
        x.set(3, 0);
        x.put(0, true, 500);
        Due.is("a picture as high as the page", x.column(0, 2), 500);
        x.put(0, false, 3000);
        Due.is("a space never overflows", x.column(0, 2), 3500);
        Due.is("nothing overflows", x.count(4), 0);
        x.put(0, true, 1);
        Due.is("the picture overflows", x.block(0, 2, 8), 0);
        x.put(0, false, 5);
        Due.is("a space behind it is not set", x.block(0, 3, 8), 0);
        Due.is("the end", x.column(0, 2), 3500);
        x.set(3, 1);
        Due.is("rounding below the page", x.block(0, 0, 7), 580);
        x.put(1, true, 501);
        x.paragraph(1, 1, 40, 40, false);
        Due.is("what would fit behind it is not set", x.column(1, 1), 0);
        // Lines at 70, 270, 470: the last one ends at 500.
        x.paragraph(2, 4, 100, 200, false);
        Due.is("lines that end at 500", x.column(2, 1), 3);
        x.set(0, 499);
        Due.is("lines that end at 499", x.column(2, 1), 2);
        // Snapped, a line at 470 is moved to 580.
        x.set(0, 600);
        x.paragraph(3, 4, 100, 200, true);
        Due.is("snapped lines", x.column(3, 1), 2);
        Due.is("the second one", x.line(3, 1, 0), 340);
        x.set(0, 610);
        Due.is("snapped lines on 610", x.column(3, 1), 3);
    }
}
