/** The sentences of THE GRID, SETTING and DRIFT that name an edge, each with what is just on it and what is one beyond. */
public final class GridEdgesTest {
    private static final int UNROUNDED = 0;

    public static void main(String[] args) {
        noBaselineAboveTheFirst();
        baselinesBelowThePage();
        baselinesOnThePage();
        ascentAndDescentAreRoundedDown();
        linesFollowByTheLeading();
        aLineOnTheGridStays();
        unsnappedLinesStay();
        thePictureAndTheGrid();
        theSpaceAtTheTop();
        aSpaceNeverOverflows();
        theLastLineOnThePage();
        theLastLineSnapped();
        thePictureAtTheEndOfThePage();
        thePictureBelowThePage();
        behindWhatOverflows();
        columnsThatOverflow();
        theEndOfAColumn();
        theGreatestEnd();
        leftToThePage();
        everyDrift();
        driftAboveTheFirstBaseline();
        onTheGrid();
        facingColumns();
        metByLinesThatAreSet();
        metByTheSameBaselineAlone();
        sharedByTwoOrMore();
        sharedBehindManyOthers();
        Due.end();
    }

    /** A page of this height without rounding, with the first baseline at 100 and the step 120. */
    private static BaselineGrid page(int height) {
        BaselineGrid x = new BaselineGrid();
        x.set(0, height);
        x.set(3, UNROUNDED);
        return x;
    }

    /** An unrounded picture, and a line of the size 40 (ascent 28, descent 12) behind it. */
    private static BaselineGrid lineBehind(int picture, boolean snapped) {
        BaselineGrid x = page(9999);
        x.put(0, true, picture);
        x.paragraph(0, 1, 40, 40, snapped);
        return x;
    }

    /** "first + k * step, for k from 0 on". */
    private static void noBaselineAboveTheFirst() {
        for (int first : new int[] {0, 1, 28, 29, 120, 121, 240, 241, 499, 500}) {
            BaselineGrid x = new BaselineGrid();
            x.set(1, first);
            x.paragraph(0, 1, 40, 40, true);
            x.put(1, true, 1);
            Due.is("a line at 28, first " + first, x.line(0, 0, 0), first >= 28 ? first : first + 120);
            Due.is("a picture to 1, first " + first, x.column(1, 2), first >= 1 ? first : 120);
        }
    }

    /** "(also below the page)". */
    private static void baselinesBelowThePage() {
        BaselineGrid x = new BaselineGrid();
        x.set(0, 200);
        x.put(0, true, 200);
        Due.is("a picture to the height, rounded", x.column(0, 2), 220);
        x.set(1, 500);
        Due.is("the first baseline is below the page", x.column(0, 2), 500);
        x.set(1, 201);
        Due.is("the first baseline is 1 below the page", x.column(0, 2), 201);
        x.set(1, 199);
        x.set(2, 500);
        Due.is("the second one is far below the page", x.column(0, 2), 699);
    }

    /** "for baselines of the grid on the page (at most at its height)". */
    private static void baselinesOnThePage() {
        BaselineGrid x = new BaselineGrid();
        int[][] due = {{6000, 50}, {6099, 50}, {6100, 51}, {5980, 50}, {5979, 49}, {219, 1}, {220, 2}, {221, 2}, {200, 1}};
        for (int[] row : due) {
            x.set(0, row[0]);
            Due.is("baselines on a page of " + row[0], x.count(6), row[1]);
        }
        x.set(1, 200);
        Due.is("the first one at the height", x.count(6), 1);
        x.set(1, 201);
        Due.is("the first one 1 below the page", x.count(6), 0);
        x.set(1, 500);
        Due.is("the first one far below the page", x.count(6), 0);
        x.set(1, 0);
        Due.is("the first one at 0", x.count(6), 2);
        x.set(2, 200);
        Due.is("at 0 and at the height", x.count(6), 2);
        x.set(2, 201);
        Due.is("at 0 alone", x.count(6), 1);
        x.set(0, 9999);
        x.set(2, 20);
        Due.is("the most", x.count(6), 500);
    }

    /** "The ascent of a size is 7 * size / 10, the descent 3 * size / 10, each rounded down." */
    private static void ascentAndDescentAreRoundedDown() {
        int[][] due = {{40, 28, 12}, {41, 28, 12}, {42, 29, 12}, {43, 30, 12}, {44, 30, 13}, {45, 31, 13}, {46, 32, 13},
            {47, 32, 14}, {48, 33, 14}, {49, 34, 14}, {50, 35, 15}, {99, 69, 29}, {399, 279, 119}, {400, 280, 120}};
        for (int[] row : due) {
            BaselineGrid x = new BaselineGrid();
            x.paragraph(0, 1, row[0], 600, false);
            Due.is("the ascent of " + row[0], x.line(0, 0, 0), row[1]);
            Due.is("the descent of " + row[0], x.column(0, 2), row[1] + row[2]);
        }
        for (int size = 40; size <= 400; size++) {
            BaselineGrid x = new BaselineGrid();
            x.paragraph(0, 1, size, size, false);
            int tenfold = 10 * x.line(0, 0, 0);
            Due.is("the ascent of " + size, tenfold <= 7 * size && tenfold > 7 * size - 10 ? 1 : 0, 1);
            tenfold = 10 * (x.column(0, 2) - x.line(0, 0, 0));
            Due.is("the descent of " + size, tenfold <= 3 * size && tenfold > 3 * size - 10 ? 1 : 0, 1);
        }
    }

    /** "the cursor plus the ascent, that of each other line the one of the line before plus the leading". */
    private static void linesFollowByTheLeading() {
        for (int leading : new int[] {40, 41, 600}) {
            BaselineGrid x = page(9999);
            x.put(0, true, 7);
            x.paragraph(0, 3, 40, leading, false);
            for (int line = 0; line < 3; line++) {
                Due.is("line " + line + ", leading " + leading, x.line(0, line, 0), 35 + line * leading);
            }
            Due.is("the cursor ahead", x.block(0, 1, 6), 7);
            Due.is("the cursor behind", x.block(0, 1, 7), 35 + 2 * leading + 12);
            x.paragraph(0, 1, 50, 600, false);
            Due.is("a first line does not stand a leading below", x.line(0, 3, 0), 35 + 2 * leading + 12 + 35);
        }
    }

    /** "each baseline is moved down to the next one of the grid, unless it is on one already". */
    private static void aLineOnTheGridStays() {
        int[][] due = {{71, 100}, {72, 100}, {73, 220}, {74, 220}, {191, 220}, {192, 220}, {193, 340}, {1, 100}};
        for (int[] row : due) {
            Due.is("a line at " + (row[0] + 28), lineBehind(row[0], true).line(0, 0, 0), row[1]);
        }
        for (int leading : new int[] {119, 120, 121, 239, 240, 241}) {
            BaselineGrid x = new BaselineGrid();
            x.paragraph(0, 3, 100, leading, true);
            int apart = leading <= 120 ? 120 : leading <= 240 ? 240 : 360;
            Due.is("the second line, leading " + leading, x.line(0, 1, 0), 100 + apart);
            Due.is("the third line, leading " + leading, x.line(0, 2, 0), 100 + 2 * apart);
        }
    }

    /** "if it is snapped". */
    private static void unsnappedLinesStay() {
        for (int picture = 70; picture < 75; picture++) {
            Due.is("a line that is not snapped", lineBehind(picture, false).line(0, 0, 0), picture + 28);
        }
    }

    /** "and then, if rounding is 1, to the next baseline of the grid, unless it is on one already". */
    private static void thePictureAndTheGrid() {
        int[][] due = {{1, 100}, {99, 100}, {100, 100}, {101, 220}, {219, 220}, {220, 220}, {221, 340}};
        for (int[] row : due) {
            BaselineGrid x = new BaselineGrid();
            x.put(0, true, row[0]);
            Due.is("a picture to " + row[0] + ", rounded", x.column(0, 2), row[1]);
            x.set(3, UNROUNDED);
            Due.is("a picture to " + row[0] + ", not rounded", x.column(0, 2), row[0]);
        }
    }

    /** "A space ..; while the cursor is at 0, it does nothing (it is set all the same)." */
    private static void theSpaceAtTheTop() {
        BaselineGrid x = page(6000);
        for (int block = 0; block < 3; block++) {
            x.put(0, false, 3000);
            Due.is("the cursor ahead of space " + block, x.block(0, block, 6), 0);
            Due.is("the cursor behind space " + block, x.block(0, block, 7), 0);
            Due.is("space " + block + " is set", x.block(0, block, 8), 1);
        }
        Due.is("blocks that are not set", x.column(0, 4), 0);
        x.put(0, true, 1);
        x.put(0, false, 9);
        Due.is("a space with the cursor at 1", x.block(0, 4, 7), 10);
        x.put(0, false, 1);
        Due.is("a space of 1", x.block(0, 5, 7), 11);
        x.paragraph(1, 1, 40, 40, false);
        x.put(1, false, 5);
        Due.is("a space behind a line", x.column(1, 2), 45);
    }

    /** "It never overflows." */
    private static void aSpaceNeverOverflows() {
        BaselineGrid x = page(200);
        x.put(0, true, 200);
        for (int block = 1; block < 16; block++) {
            x.put(0, false, 3000);
            Due.is("space " + block + " is set", x.block(0, block, 8), 1);
        }
        Due.is("the end", x.column(0, 2), 45200);
        Due.is("what is left", x.column(0, 9), -45000);
        Due.is("the greatest end", x.count(5), 45200);
        Due.is("nothing overflows", x.count(4), 0);
        Due.is("flow(0)", x.flow(0), -5);
    }

    /** "A line overflows if its baseline plus the descent is greater than the height of the page". */
    private static void theLastLineOnThePage() {
        for (int height = 399; height <= 401; height++) {
            BaselineGrid x = page(height);
            x.paragraph(0, 5, 100, 100, false);
            // Lines at 70, 170, 270, 370: the fourth one ends at 400.
            Due.is("set lines on " + height, x.column(0, 1), height < 400 ? 3 : 4);
            Due.is("set lines of the block on " + height, x.block(0, 0, 8), height < 400 ? 3 : 4);
            Due.is("the end on " + height, x.column(0, 2), height < 400 ? 300 : 400);
            x.paragraph(1, 4, 100, 100, false);
            Due.is("columns of which something overflows on " + height, x.count(4), height < 400 ? 2 : 1);
        }
        BaselineGrid y = page(200);
        y.put(0, true, 160);
        y.paragraph(0, 1, 40, 40, false);
        Due.is("a line that ends at the height", y.column(0, 1), 1);
        y.put(1, true, 161);
        y.paragraph(1, 1, 40, 40, false);
        Due.is("a line that ends 1 below it", y.column(1, 1), 0);
        Due.is("its baseline is on the page, it overflows", y.count(4), 1);
    }

    /** A line overflows by where it stands after it was moved. */
    private static void theLastLineSnapped() {
        for (int height = 231; height <= 233; height++) {
            BaselineGrid x = page(height);
            x.put(0, true, 73);
            x.paragraph(0, 1, 40, 40, true);
            // At 101, moved to 220; it ends at 232.
            Due.is("a snapped line on " + height, x.column(0, 1), height < 232 ? 0 : 1);
            Due.is("the end on " + height, x.column(0, 2), height < 232 ? 73 : 232);
        }
    }

    /** "a picture if the cursor would be greater than that behind it, ahead of rounding". */
    private static void thePictureAtTheEndOfThePage() {
        for (int rounding = 0; rounding < 2; rounding++) {
            BaselineGrid x = new BaselineGrid();
            x.set(3, rounding);
            x.set(0, 300);
            x.put(0, true, 300);
            Due.is("a picture to the height", x.block(0, 0, 8), 1);
            Due.is("the end", x.column(0, 2), rounding == 1 ? 340 : 300);
            x.put(1, true, 301);
            Due.is("a picture to 1 below it", x.block(1, 0, 8), 0);
            Due.is("the end", x.column(1, 2), 0);
            x.paragraph(2, 1, 100, 100, false);
            x.put(2, true, 200);
            Due.is("a picture to the height, behind a line", x.block(2, 1, 8), 1);
            x.paragraph(3, 1, 100, 100, false);
            x.put(3, true, 201);
            Due.is("a picture to 1 below it, behind a line", x.block(3, 1, 8), 0);
            Due.is("the end", x.column(3, 2), 100);
            Due.is("columns of which something overflows", x.count(4), 2);
        }
    }

    private static void thePictureBelowThePage() {
        BaselineGrid x = new BaselineGrid();
        x.set(0, 300);
        x.put(0, true, 300);
        x.put(0, true, 1);
        Due.is("a picture of 1 below the page", x.block(0, 1, 8), 0);
        x.put(1, true, 300);
        x.paragraph(1, 1, 40, 40, false);
        Due.is("a line below the page", x.block(1, 1, 8), 0);
        x.put(2, true, 220);
        x.put(2, false, 79);
        x.put(2, true, 1);
        Due.is("a picture of 1 to the height", x.block(2, 2, 8), 1);
    }

    /** "What overflows, and all that comes behind it in the column, is not set, and does not move the cursor." */
    private static void behindWhatOverflows() {
        BaselineGrid x = page(300);
        x.put(0, true, 50);
        x.put(0, true, 251);
        x.put(0, true, 1);
        x.put(0, false, 1);
        x.paragraph(0, 1, 40, 40, false);
        for (int block = 1; block < 5; block++) {
            Due.is("block " + block + " is not set", x.block(0, block, 8), 0);
            Due.is("no cursor ahead of block " + block, x.block(0, block, 6), -5);
            Due.is("no cursor behind block " + block, x.block(0, block, 7), -5);
        }
        Due.is("the end", x.column(0, 2), 50);
        Due.is("blocks of which nothing is set", x.column(0, 4), 4);
        Due.is("lines that are not set", x.column(0, 3), 1);
        x.paragraph(1, 4, 100, 100, false);
        x.put(1, false, 7);
        x.paragraph(1, 2, 40, 40, false);
        Due.is("a paragraph of which a line overflows", x.block(1, 0, 8), 3);
        Due.is("its cursor behind", x.block(1, 0, 7), 300);
        Due.is("a space behind it", x.block(1, 1, 8), 0);
        Due.is("the end", x.column(1, 2), 300);
        Due.is("lines that are not set", x.column(1, 3), 3);
        Due.is("blocks of which nothing is set", x.column(1, 4), 2);
        // A line overflows, the picture behind it would fit.
        x.put(2, true, 261);
        x.paragraph(2, 1, 40, 40, false);
        x.put(2, true, 39);
        Due.is("the picture is not set", x.block(2, 2, 8), 0);
    }

    /** "for columns of which something overflows": from none of them to all. */
    private static void columnsThatOverflow() {
        BaselineGrid x = page(300);
        for (int column = 0; column < 4; column++) {
            x.paragraph(column, 3, 100, 100, false);
            Due.is("a line to the height in " + column, x.count(4), column);
            Due.is("lines that are not set", x.count(3), column);
            x.paragraph(column, 1, 40, 40, false);
            Due.is("a line below it in " + column, x.count(4), column + 1);
            Due.is("lines that are not set then", x.count(3), column + 1);
        }
        x.set(0, 340);
        Due.is("on a page that is higher", x.count(4), 0);
        Due.is("all lines are set", x.count(3), 0);
    }

    /** "The end of a column is where the cursor is in the end." */
    private static void theEndOfAColumn() {
        BaselineGrid x = page(6000);
        Due.is("an empty column", x.column(0, 2), 0);
        x.put(0, false, 500);
        Due.is("a space alone", x.column(0, 2), 0);
        x.put(1, true, 6001 - 3000);
        Due.is("a picture of 3001 is none", x.column(1, 0), 0);
        x.put(1, true, 3000);
        x.put(1, true, 3000);
        Due.is("two pictures", x.column(1, 2), 6000);
        Due.is("the greatest end", x.count(5), 6000);
    }

    /** "for the greatest end of a column", whichever one it is. */
    private static void theGreatestEnd() {
        for (int greatest = 0; greatest < 4; greatest++) {
            BaselineGrid x = page(300);
            for (int column = 0; column < 4; column++) {
                x.put(column, true, column == greatest ? 200 : 199);
            }
            Due.is("the greatest end, of " + greatest, x.count(5), 200);
            x.put(greatest, false, 3000);
            Due.is("the greatest end, below the page", x.count(5), 3200);
        }
    }

    /** "between its end and the height of the page (below 0 if the end is below the page)". */
    private static void leftToThePage() {
        BaselineGrid x = page(300);
        x.put(0, true, 299);
        int[] ends = {299, 300, 301, 302};
        for (int end : ends) {
            Due.is("left behind " + end, x.column(0, 9), 300 - end);
            x.put(0, false, 1);
        }
        Due.is("left in an empty column", x.column(1, 9), 300);
    }

    /** "the rest of its baseline less the first baseline of the grid, divided by the step (0 to the step less 1 ..)". */
    private static void everyDrift() {
        for (int step : new int[] {20, 21, 120, 499, 500}) {
            for (int picture = 1; picture <= 1100; picture += 1) {
                BaselineGrid x = lineBehind(picture, false);
                x.set(2, step);
                int baseline = picture + 28;
                int due = (baseline - 100 + 10000 * step) % step;
                Due.is("drift at " + baseline + ", step " + step, x.line(0, 0, 1), due);
                Due.is("sum of drifts at " + baseline + ", step " + step, x.column(0, 5), due);
                Due.is("greatest drift at " + baseline + ", step " + step, x.column(0, 6), due);
            }
        }
        int[][] due = {{99, 119}, {100, 0}, {101, 1}, {219, 119}, {220, 0}, {221, 1}};
        for (int[] row : due) {
            Due.is("drift at " + row[0], lineBehind(row[0] - 28, false).line(0, 0, 1), row[1]);
        }
    }

    /** "(.. also for a line above the first baseline)". */
    private static void driftAboveTheFirstBaseline() {
        BaselineGrid x = lineBehind(1, false);
        int[][] due = {{28, 1}, {29, 0}, {30, 119}, {148, 1}, {149, 0}, {150, 119}, {500, 9}};
        for (int[] row : due) {
            x.set(1, row[0]);
            Due.is("drift at 29, first " + row[0], x.line(0, 0, 1), row[1]);
            Due.is("count(2), first " + row[0], x.count(2), row[1]);
        }
    }

    /** "for lines on the grid (on one of its baselines)": there is none above the first one. */
    private static void onTheGrid() {
        int[][] due = {{29, 1, 1}, {30, 0, 0}, {28, 0, 0}, {149, 0, 0}};
        for (int[] row : due) {
            BaselineGrid x = lineBehind(1, false);
            x.set(1, row[0]);
            Due.is("lines on the grid at 29, first " + row[0], x.column(0, 7), row[1]);
            Due.is("ifStep(120, 2), first " + row[0], x.ifStep(120, 2), row[2]);
        }
        for (int baseline = 98; baseline <= 102; baseline++) {
            int on = baseline == 100 ? 1 : 0;
            Due.is("lines on the grid at " + baseline, lineBehind(baseline - 28, false).column(0, 7), on);
            Due.is("lines on the grid at " + (baseline + 120), lineBehind(baseline + 92, false).column(0, 7), on);
        }
    }

    /** "Two columns face one another if their numbers differ by 1"; "0 without such a column". */
    private static void facingColumns() {
        for (int a = 0; a < 4; a++) {
            for (int b = a + 1; b < 4; b++) {
                BaselineGrid x = new BaselineGrid();
                x.paragraph(a, 1, 100, 100, true);
                x.paragraph(b, 1, 100, 100, true);
                int facing = b == a + 1 ? 1 : 0;
                String what = " of " + a + " and " + b;
                Due.is("the left one met by the column before" + what, x.line(a, 0, 3), 0);
                Due.is("the left one met by the column behind" + what, x.line(a, 0, 4), facing);
                Due.is("the right one met by the column before" + what, x.line(b, 0, 3), facing);
                Due.is("the right one met by the column behind" + what, x.line(b, 0, 4), 0);
                Due.is("met lines of the left one" + what, x.column(a, 8), facing);
                Due.is("met lines of the right one" + what, x.column(b, 8), facing);
                Due.is("shared" + what, x.shared(0, 1), 2);
            }
        }
        BaselineGrid y = new BaselineGrid();
        for (int column = 0; column < 4; column++) {
            y.paragraph(column, 1, 100, 100, true);
        }
        Due.is("nothing before column 0", y.line(0, 0, 3), 0);
        Due.is("nothing behind column 3", y.line(3, 0, 4), 0);
        Due.is("a line between two that meet it counts once", y.column(1, 8), 1);
        Due.is("shared by all", y.shared(0, 1), 4);
    }

    /** "if that has a set line with the same baseline". */
    private static void metByLinesThatAreSet() {
        BaselineGrid x = page(400);
        x.paragraph(0, 3, 60, 120, true);
        // 100, 220, 340 in both; those of the column 1 end 30 below, so that the third one is on the page to 370.
        x.paragraph(1, 3, 100, 120, true);
        Due.is("met lines, all are set", x.column(0, 8), 3);
        x.set(0, 370);
        Due.is("met lines, the last one ends at the height", x.column(0, 8), 3);
        Due.is("shared, the last one ends at the height", x.shared(2, 0), 340);
        x.set(0, 369);
        Due.is("met lines, the last one of column 1 is not set", x.column(0, 8), 2);
        Due.is("the last one of column 0 is set", x.column(0, 1), 3);
        Due.is("it is not met", x.line(0, 2, 4), 0);
        Due.is("nor shared", x.shared(2, 0), -5);
    }

    private static void metByTheSameBaselineAlone() {
        for (int picture = 71; picture <= 73; picture++) {
            BaselineGrid x = lineBehind(picture, false);
            x.paragraph(1, 1, 100, 100, true);
            int same = picture == 72 ? 1 : 0;
            Due.is("a line at " + (picture + 28) + " beside one at 100", x.line(0, 0, 4), same);
            Due.is("met lines", x.column(1, 8), same);
            Due.is("shared", x.shared(0, 0), same == 1 ? 100 : -5);
        }
    }

    /** "the baselines on which lines of two or more columns stand", "by their places". */
    private static void sharedByTwoOrMore() {
        BaselineGrid x = new BaselineGrid();
        x.paragraph(3, 3, 100, 240, true);
        Due.is("one column", x.shared(0, 0), -5);
        x.paragraph(0, 3, 100, 120, true);
        // Column 3: 100, 340, 580; column 0: 100, 220, 340.
        Due.is("two columns, the uppermost", x.shared(0, 0), 100);
        Due.is("two columns, the next one", x.shared(1, 0), 340);
        Due.is("two columns, no more", x.shared(2, 0), -5);
        x.paragraph(1, 5, 100, 120, true);
        Due.is("three columns", x.shared(0, 1), 3);
        Due.is("220 then", x.shared(1, 0) * 10 + x.shared(1, 1), 2202);
        Due.is("340 then", x.shared(2, 0) * 10 + x.shared(2, 1), 3403);
        Due.is("580 then", x.shared(3, 0) * 10 + x.shared(3, 1), 5802);
        Due.is("460 is of one column", x.shared(4, 0), -5);
    }

    /** A shared baseline behind 240 lines of each column, no two of which stand on one. */
    private static void sharedBehindManyOthers() {
        BaselineGrid x = page(9999);
        for (int column = 0; column < 4; column++) {
            x.put(column, true, 10 + 10 * column);
            for (int paragraph = 0; paragraph < 6; paragraph++) {
                x.paragraph(column, 40, 40, 40, false);
            }
            x.put(column, false, 100 - 10 * column);
            x.paragraph(column, 1, 40, 40, false);
        }
        Due.is("set lines", x.count(1), 4 * 241);
        Due.is("the only shared baseline", x.shared(0, 0), 9738);
        Due.is("its columns", x.shared(0, 1), 4);
        Due.is("no other one", x.shared(1, 0), -5);
        Due.is("met lines", x.column(1, 8), 1);
    }
}
