/** Promises 15, 16, 17, 18, 21: block, line, column, shared, count. */
public final class ToldTest {
    public static void main(String[] args) {
        blocks();
        lines();
        columns();
        linesThatWere();
        sharedBaselines();
        counts();
        linesAboveTheGrid();
        manyLines();
        Due.end();
    }

    /** Column 1: a space, a picture, 3 lines, of which 2 are set, a picture and a space that are not. */
    private static BaselineGrid partlySet() {
        BaselineGrid x = new BaselineGrid();
        x.set(0, 499);
        Due.types(x, "s7;i30;p3*100/150;i1;s1");
        x.putAll(1);
        return x;
    }

    private static void blocks() {
        BaselineGrid x = partlySet();
        int[][] due = {
            {2, -5, -5, -5, -5, 7, 0, 0, 1},
            {1, -5, -5, -5, -5, 30, 0, 100, 1},
            {0, 3, 100, 150, 0, -5, 100, 350, 2},
            {1, -5, -5, -5, -5, 1, -5, -5, 0},
            {2, -5, -5, -5, -5, 1, -5, -5, 0}};
        for (int block = 0; block < 5; block++) {
            for (int what = 0; what < 9; what++) {
                Due.is("block(1, " + block + ", " + what + ")", x.block(1, block, what), due[block][what]);
            }
            Due.is("what 9", x.block(1, block, 9), -2);
            Due.is("what -1", x.block(1, block, -1), -2);
        }
        Due.is("what MIN", x.block(1, 0, Integer.MIN_VALUE), -2);
        Due.is("block(1, 5, 9)", x.block(1, 5, 9), -1);
        Due.is("block(1, -1, 0)", x.block(1, -1, 0), -1);
        Due.is("block(4, 0, 9)", x.block(4, 0, 9), -1);
        Due.is("block(-1, 0, 0)", x.block(-1, 0, 0), -1);
        Due.is("block(0, 0, 0)", x.block(0, 0, 0), -1);
        x.set(0, 200);
        x.set(1, 180);
        Due.is("a paragraph of which nothing is set, ahead", x.block(1, 2, 6), -5);
        Due.is("a paragraph of which nothing is set, behind", x.block(1, 2, 7), -5);
        Due.is("a paragraph of which nothing is set", x.block(1, 2, 8), 0);
        Due.is("its lines", x.block(1, 2, 1), 3);
        x.set(1, 100);
        x.set(0, 350);
        Due.is("all 2 lines", x.block(1, 2, 8), 2);
        x.set(0, 500);
        Due.is("3 lines", x.block(1, 2, 8), 3);
    }

    private static void lines() {
        BaselineGrid x = new BaselineGrid();
        x.paragraph(0, 3, 100, 120, true);
        x.paragraph(1, 2, 100, 240, true);
        x.put(1, true, 10);
        x.paragraph(1, 1, 100, 110, false);
        x.paragraph(2, 2, 100, 150, false);
        x.paragraph(3, 1, 100, 150, false);
        // Column 0: 100, 220, 340. Column 1: 100, 340, then 370, 460, 530. Column 2: 70, 220. Column 3: 70.
        int[][] due = {
            {0, 0, 100, 0, 0, 0, 1}, {0, 1, 220, 0, 0, 0, 0}, {0, 2, 340, 0, 0, 0, 1},
            {1, 0, 100, 0, 0, 1, 0}, {1, 1, 340, 0, 0, 1, 0}, {1, 2, 530, 70, 2, 0, 0},
            {2, 0, 70, 90, 0, 0, 1}, {2, 1, 220, 0, 0, 0, 0}, {3, 0, 70, 90, 0, 1, 0}};
        for (int[] row : due) {
            for (int what = 0; what < 5; what++) {
                Due.is("line(" + row[0] + ", " + row[1] + ", " + what + ")", x.line(row[0], row[1], what), row[2 + what]);
            }
        }
        Due.is("line(0, 3, 0)", x.line(0, 3, 0), -5);
        Due.is("line(0, 3, 5)", x.line(0, 3, 5), -2);
        Due.is("line(0, MAX, 0)", x.line(0, Integer.MAX_VALUE, 0), -5);
        Due.is("line(0, -1, 0)", x.line(0, -1, 0), -2);
        Due.is("line(0, 0, -1)", x.line(0, 0, -1), -2);
        Due.is("line(0, 0, 5)", x.line(0, 0, 5), -2);
        Due.is("line(4, -1, 5)", x.line(4, -1, 5), -1);
        Due.is("line(-1, 0, 0)", x.line(-1, 0, 0), -1);
        BaselineGrid y = partlySet();
        Due.is("the second set line", y.line(1, 1, 0), 320);
        Due.is("a line that is not set", y.line(1, 2, 0), -5);
        Due.is("the block of the line", y.line(1, 1, 2), 2);
    }

    private static void columns() {
        BaselineGrid x = partlySet();
        // Lines at 170 and 320; drifts 70 and 100.
        int[] due = {5, 2, 350, 1, 2, 170, 100, 0, 0, 149};
        for (int what = 0; what < 10; what++) {
            Due.is("column(1, " + what + ")", x.column(1, what), due[what]);
        }
        Due.is("column(1, 10)", x.column(1, 10), -2);
        Due.is("column(1, -1)", x.column(1, -1), -2);
        Due.is("column(4, 10)", x.column(4, 10), -1);
        Due.is("column(-1, 0)", x.column(-1, 0), -1);
        x.paragraph(1, 40, 40, 40, true);
        Due.is("lines that are not set", x.column(1, 3), 41);
        Due.is("blocks of which nothing is set", x.column(1, 4), 3);
        x.put(3, true, 499);
        x.put(3, false, 300);
        Due.is("an end below the page", x.column(3, 9), -381);
        x.put(0, true, 500);
        Due.is("the first block alone, not set", x.column(0, 4), 1);
        Due.is("columns of which something overflows", x.count(4), 2);
        Due.is("the greatest drift, of the first line", greatestDrift(60, 90), 90);
        Due.is("the greatest drift, of the last line", greatestDrift(0, 90), 60);
        BaselineGrid y = new BaselineGrid();
        // Column 0: 100, 220, 340. Column 1: 100, 340, 580. Column 2: 340. Column 3: 100.
        y.paragraph(0, 3, 100, 120, true);
        y.paragraph(1, 3, 100, 240, true);
        y.put(2, true, 150);
        y.paragraph(2, 1, 100, 100, true);
        y.paragraph(3, 1, 100, 100, true);
        Due.is("met lines of column 0", y.column(0, 8), 2);
        Due.is("met lines of column 1, each once", y.column(1, 8), 2);
        Due.is("met lines of column 2", y.column(2, 8), 1);
        Due.is("met lines of column 3", y.column(3, 8), 0);
        Due.is("lines on the grid", y.column(1, 7), 3);
        Due.is("the greatest drift on the grid", y.column(1, 6), 0);
    }

    /** Of a picture and two unsnapped lines of the size 100 behind it. */
    private static int greatestDrift(int picture, int leading) {
        BaselineGrid x = new BaselineGrid();
        x.set(3, 0);
        x.put(0, true, picture + 60);
        x.paragraph(0, 2, 100, leading + 60, false);
        return x.column(0, 6);
    }

    /** Lines that were set once, and are no more, count for nothing. */
    private static void linesThatWere() {
        BaselineGrid x = new BaselineGrid();
        x.paragraph(0, 5, 100, 120, true);
        x.paragraph(1, 3, 100, 120, true);
        Due.is("met lines", x.column(0, 8), 3);
        Due.is("the greatest end is that of column 0", x.count(5), 610);
        x.set(0, 400);
        x.remove(0, 0);
        x.paragraph(0, 1, 100, 120, true);
        Due.is("met lines then", x.column(1, 8), 1);
        Due.is("the second line", x.line(1, 1, 3), 0);
        Due.is("the first line", x.line(1, 0, 3), 1);
        Due.is("the second shared baseline", x.shared(1, 0), -5);
        x.undo();
        x.undo();
        x.undo();
        Due.is("met lines again", x.column(1, 8), 3);
        Due.is("the third shared baseline", x.shared(2, 0), 340);
    }

    private static void sharedBaselines() {
        BaselineGrid x = new BaselineGrid();
        x.paragraph(0, 3, 100, 120, true);
        Due.is("one column alone", x.shared(0, 0), -5);
        x.paragraph(1, 3, 100, 240, true);
        x.put(2, true, 150);
        x.paragraph(2, 1, 100, 100, true);
        x.paragraph(3, 1, 100, 100, true);
        x.paragraph(3, 1, 100, 240, false);
        x.paragraph(3, 2, 100, 120, true);
        // Column 0: 100, 220, 340. Column 1: 100, 340, 580. Column 2: 340. Column 3: 100, 200, 340, 460.
        Due.is("shared(0, 0)", x.shared(0, 0), 100);
        Due.is("shared(0, 1)", x.shared(0, 1), 3);
        Due.is("shared(1, 0)", x.shared(1, 0), 340);
        Due.is("shared(1, 1)", x.shared(1, 1), 4);
        Due.is("shared(2, 0)", x.shared(2, 0), -5);
        Due.is("shared(2, 1)", x.shared(2, 1), -5);
        Due.is("shared(MAX, 1)", x.shared(Integer.MAX_VALUE, 1), -5);
        Due.is("shared(-1, 0)", x.shared(-1, 0), -2);
        Due.is("shared(0, 2)", x.shared(0, 2), -2);
        Due.is("shared(9, -1)", x.shared(9, -1), -2);
        BaselineGrid z = new BaselineGrid();
        z.paragraph(0, 2, 100, 150, false);
        z.paragraph(0, 1, 100, 100, true);
        z.put(1, true, 150);
        z.paragraph(1, 1, 100, 100, true);
        // Column 0: 70, 220, 340. Column 1: 340.
        Due.is("lines of the first column alone ahead", z.shared(0, 0), 340);
        Due.is("lines of the first column alone ahead, columns", z.shared(0, 1), 2);
        BaselineGrid y = new BaselineGrid();
        y.paragraph(0, 40, 40, 40, false);
        y.paragraph(3, 40, 40, 40, false);
        Due.is("columns that do not face one another", y.shared(39, 0), 28 + 39 * 40);
        Due.is("two columns", y.shared(39, 1), 2);
        Due.is("shared(40, 0)", y.shared(40, 0), -5);
        Due.is("they do not meet", y.column(0, 8), 0);
    }

    private static void counts() {
        BaselineGrid x = partlySet();
        x.put(0, true, 100);
        x.put(3, true, 501);
        x.paragraph(3, 4, 100, 100, true);
        Due.types(x, "abc");
        int[] due = {8, 2, 170, 5, 2, 350, 4, 4, 3, -2, 499, 100, 120, 1, 2, -2};
        for (int what = 0; what < 16; what++) {
            Due.is("count(" + what + ")", x.count(what), due[what]);
        }
        Due.is("count(-1)", x.count(-1), -2);
        Due.is("count(MAX)", x.count(Integer.MAX_VALUE), -2);
        x.set(0, 460);
        Due.is("a baseline at the height of the page", x.count(6), 4);
        x.set(0, 459);
        Due.is("a baseline below the page", x.count(6), 3);
        x.set(0, 200);
        x.set(1, 200);
        Due.is("the first baseline at the height", x.count(6), 1);
        x.set(1, 201);
        Due.is("the first baseline below the page", x.count(6), 0);
        x.set(1, 500);
        Due.is("the first baseline far below the page", x.count(6), 0);
        x.set(0, 9999);
        x.set(1, 0);
        x.set(2, 20);
        Due.is("the most baselines", x.count(6), 500);
    }

    private static void linesAboveTheGrid() {
        BaselineGrid x = new BaselineGrid();
        x.set(1, 310);
        x.paragraph(0, 4, 100, 120, false);
        // Lines at 70, 190, 310, 430: all with the drift 0, two of them above the first baseline.
        Due.is("drift above the first baseline", x.line(0, 0, 1), 0);
        Due.is("lines on the grid", x.column(0, 7), 2);
        Due.is("ifStep(120, 2)", x.ifStep(120, 2), 2);
        x.set(1, 311);
        Due.is("drift 119", x.line(0, 0, 1), 119);
        Due.is("the sum of the drifts", x.column(0, 5), 4 * 119);
        Due.is("the greatest drift", x.column(0, 6), 119);
        x.set(1, 500);
        Due.is("drift far above the first baseline", x.line(0, 0, 1), 50);
    }

    private static void manyLines() {
        BaselineGrid x = new BaselineGrid();
        x.set(0, 9999);
        for (int column = 0; column < 4; column++) {
            for (int block = 0; block < 16; block++) {
                x.paragraph(column, 40, 40, 40, false);
            }
        }
        Due.is("set lines", x.count(1), 4 * 249);
        Due.is("lines that are not set", x.count(3), 4 * (640 - 249));
        Due.is("the last line", x.line(3, 248, 0), 28 + 248 * 40);
        Due.is("behind the last line", x.line(3, 249, 0), -5);
        Due.is("the last shared baseline", x.shared(248, 1), 4);
        Due.is("behind the last shared baseline", x.shared(249, 1), -5);
        Due.is("met lines", x.column(2, 8), 249);
        Due.is("blocks of which nothing is set", x.column(2, 4), 9);
    }
}
