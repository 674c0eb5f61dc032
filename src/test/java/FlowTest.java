/** Promise 8: flow. */
public final class FlowTest {
    public static void main(String[] args) {
        dividing();
        leastLines();
        movingAll();
        ordersAndErrors();
        fullNextColumn();
        Due.end();
    }

    /** A column 0 with one paragraph of which so many lines fit on the page. */
    private static BaselineGrid paragraphOf(int lines, int fitting, int least) {
        BaselineGrid x = new BaselineGrid();
        x.set(4, least);
        x.set(0, 200 * fitting);
        x.paragraph(0, lines, 200, 200, false);
        return x;
    }

    private static void dividing() {
        BaselineGrid x = new BaselineGrid();
        x.set(0, 610);
        x.put(0, true, 100);
        x.paragraph(0, 10, 100, 110, true);
        x.put(0, false, 33);
        x.put(0, true, 44);
        x.paragraph(1, 7, 50, 60, false);
        x.put(1, true, 55);
        Due.is("set lines", x.column(0, 1), 4);
        Due.is("flow(0)", x.flow(0), 3);
        Due.is("blocks that stay", x.column(0, 0), 2);
        Due.is("lines that stay", x.block(0, 1, 1), 4);
        Due.is("nothing overflows then", x.flow(0), -5);
        int[][] due = {{0, 6, 100, 110, 1, -5}, {2, -5, -5, -5, -5, 33}, {1, -5, -5, -5, -5, 44},
            {0, 7, 50, 60, 0, -5}, {1, -5, -5, -5, -5, 55}};
        Due.is("blocks of the next column", x.column(1, 0), 5);
        for (int block = 0; block < 5; block++) {
            for (int what = 0; what < 6; what++) {
                Due.is("block(1, " + block + ", " + what + ")", x.block(1, block, what), due[block][what]);
            }
        }
        Due.is("undo()", x.undo(), 3);
        Due.is("lines after undo", x.block(0, 1, 1), 10);
        Due.is("blocks after undo", x.column(0, 0) * 10 + x.column(1, 0), 42);
    }

    private static void leastLines() {
        // {lines, fitting, least, staying}
        int[][] due = {
            {8, 5, 2, 5}, {6, 5, 2, 4}, {3, 2, 2, 0}, {4, 3, 2, 2}, {4, 1, 2, 0}, {2, 1, 2, 0},
            {2, 1, 1, 1}, {9, 8, 1, 8}, {9, 1, 1, 1}, {2, 1, 3, 0}, {6, 5, 3, 3}, {5, 4, 3, 0},
            {6, 4, 3, 3}, {6, 3, 3, 3}, {7, 2, 3, 0}, {7, 3, 3, 3}, {40, 39, 3, 37}, {40, 39, 1, 39}};
        for (int[] row : due) {
            BaselineGrid x = paragraphOf(row[0], row[1], row[2]);
            String what = row[0] + " lines, " + row[1] + " fitting, least " + row[2];
            Due.is(what + ": set", x.column(0, 1), row[1]);
            Due.is(what + ": flow", x.flow(0), 1);
            Due.is(what + ": blocks", x.column(0, 0), row[3] == 0 ? 0 : 1);
            Due.is(what + ": staying", x.block(0, 0, 1), row[3] == 0 ? -1 : row[3]);
            Due.is(what + ": moved", x.block(1, 0, 1), row[0] - row[3]);
        }
    }

    private static void movingAll() {
        BaselineGrid x = new BaselineGrid();
        x.set(0, 200);
        x.put(2, true, 3000);
        x.put(2, false, 1);
        Due.is("a picture that never fits", x.flow(2), 2);
        Due.is("column 2", x.column(2, 0), 0);
        Due.is("column 3", x.block(3, 0, 5), 3000);
        x.paragraph(0, 1, 40, 40, false);
        x.paragraph(0, 5, 400, 400, false);
        Due.is("a paragraph of which nothing is set", x.flow(0), 1);
        Due.is("the one ahead stays", x.block(0, 0, 2), 40);
        Due.is("the next column", x.block(1, 0, 1), 5);
        Due.is("it flows on", x.flow(1), 1);
        Due.is("column 2 again", x.block(2, 0, 1), 5);
        Due.is("column 1", x.column(1, 0), 0);
    }

    private static void ordersAndErrors() {
        BaselineGrid x = new BaselineGrid();
        Due.is("flow(-1)", x.flow(-1), -1);
        Due.is("flow(4)", x.flow(4), -1);
        Due.is("flow(MAX)", x.flow(Integer.MAX_VALUE), -1);
        Due.is("flow(3), empty", x.flow(3), -4);
        Due.is("flow(2), empty", x.flow(2), -5);
        x.set(3, 0);
        x.put(0, true, 3000);
        x.put(0, true, 3000);
        x.put(0, false, 3000);
        Due.is("flow(0), nothing overflows", x.flow(0), -5);
        Due.is("count(7)", x.count(7), 4);
        x.put(0, true, 1);
        Due.is("flow(0), the last block overflows", x.flow(0), 1);
        x.put(3, true, 3000);
        x.put(3, true, 3000);
        x.put(3, true, 1);
        Due.is("flow(3)", x.flow(3), -4);
    }

    private static void fullNextColumn() {
        BaselineGrid x = new BaselineGrid();
        x.set(0, 200);
        x.put(0, true, 201);
        for (int block = 0; block < 14; block++) {
            x.put(0, true, 10);
            x.put(1, true, 20 + block);
        }
        Due.is("15 blocks to 14", x.flow(0), -3);
        Due.is("nothing is changed", x.column(0, 0) * 100 + x.column(1, 0), 1514);
        Due.is("the history neither", x.undo() * 100 + x.column(1, 0), 313);
        for (int block = 0; block < 12; block++) {
            x.remove(1, 1);
        }
        Due.is("15 blocks to 1", x.flow(0), 15);
        Due.is("the last block of the next column", x.block(1, 15, 5), 20);
        Due.is("the first one", x.block(1, 0, 5), 201);
        Due.is("a full next column", x.column(1, 0), 16);
        x.put(0, true, 201);
        Due.is("1 block to 16", x.flow(0), -3);
        Due.is("16 blocks to an empty column", x.flow(1), 16);
        Due.is("the last of these", x.block(2, 15, 5), 20);
    }
}
