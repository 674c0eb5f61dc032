/**
 * A typographer's grid: four columns of blocks that are set on a page whose baselines they share.
 * All measures are tenths of a point; down is greater.
 */
public final class BaselineGrid {
    public static final int UNKNOWN = -1;
    public static final int BAD_VALUE = -2;
    public static final int FULL = -3;
    public static final int NOT_POSSIBLE = -4;
    public static final int NONE = -5;

    private static final int SETTINGS = 5;
    private static final int PAGE_HEIGHT = 0;
    private static final int FIRST_BASELINE = 1;
    private static final int STEP = 2;
    private static final int ROUNDING = 3;
    private static final int LEAST_LINES = 4;
    private static final int[] LEAST_SETTINGS = {200, 0, 20, 0, 1};
    private static final int[] GREATEST_SETTINGS = {9999, 500, 500, 1, 3};
    private static final int[] FIRST_SETTINGS = {6000, 100, 120, 1, 2};
    private static final int LEAST_STEP = 20;
    private static final int GREATEST_STEP = 500;

    private static final int COLUMNS = 4;
    private static final int MOST_BLOCKS = 16;

    private static final int PARAGRAPH = 0;
    private static final int PICTURE = 1;
    private static final int SPACE = 2;

    // The fields of a block bear the numbers by which block() tells them.
    private static final int FIELDS = 6;
    private static final int KIND = 0;
    private static final int LINES = 1;
    private static final int SIZE = 2;
    private static final int LEADING = 3;
    private static final int SNAPPED = 4;
    private static final int BLOCK_HEIGHT = 5;

    private static final int MOST_LINES = 40;
    private static final int LEAST_SIZE = 40;
    private static final int GREATEST_SIZE = 400;
    private static final int GREATEST_LEADING = 600;
    private static final int GREATEST_HEIGHT = 3000;
    private static final int GREATEST_DEPTH = 9999;
    private static final int MOST_COLUMN_LINES = MOST_BLOCKS * MOST_LINES;

    // A state is one row: the settings, how many blocks each column has, the fields of the blocks.
    private static final int COUNTS_AT = SETTINGS;
    private static final int BLOCKS_AT = COUNTS_AT + COLUMNS;
    private static final int STATE_CELLS = BLOCKS_AT + COLUMNS * MOST_BLOCKS * FIELDS;
    private static final int MOST_STATES = 4;

    private static final int MOST_CHARACTERS = 60;
    // The shortest block has two characters, and all but one a ";" in front: 20 fill 59 characters.
    private static final int MOST_TEXT_BLOCKS = 20;

    private final Page page = new Page();
    private final Layout now = new Layout();
    private final Layout trial = new Layout();
    private final History history = new History();
    private final int[] snapshot = new int[STATE_CELLS];
    private boolean hasSnapshot = false;
    private final Text text = new Text();

    /** Creates empty columns. */
    public BaselineGrid() {
        now.layOut(page, page.settingOf(STEP));
    }

    // ---- settings, blocks

    /** Sets a setting; returns the previous one; BAD_VALUE; NONE. */
    public int set(int what, int value) {
        if (what < 0 || what >= SETTINGS) {
            return BAD_VALUE;
        }
        if (value < LEAST_SETTINGS[what] || value > GREATEST_SETTINGS[what]) {
            return BAD_VALUE;
        }
        int previous = page.settingOf(what);
        if (previous == value) {
            return NONE;
        }
        history.record(page);
        page.changeSetting(what, value);
        layOutAgain();
        return previous;
    }

    /** Puts a paragraph behind the blocks of a column; returns its number; UNKNOWN; BAD_VALUE; FULL. */
    public int paragraph(int column, int lines, int size, int leading, boolean snapped) {
        if (!isColumn(column)) {
            return UNKNOWN;
        }
        if (lines < 1 || lines > MOST_LINES || size > GREATEST_SIZE || leading > GREATEST_LEADING) {
            return BAD_VALUE;
        }
        if (!isFitting(size, leading)) {
            return BAD_VALUE;
        }
        int number = page.blocksOf(column);
        if (number >= MOST_BLOCKS) {
            return FULL;
        }
        history.record(page);
        page.appendParagraph(column, lines, size, leading, snapped);
        layOutAgain();
        return number;
    }

    /** Puts a picture or a space behind the blocks of a column; returns its number; UNKNOWN; BAD_VALUE; FULL. */
    public int put(int column, boolean picture, int height) {
        if (!isColumn(column)) {
            return UNKNOWN;
        }
        if (height < 1 || height > GREATEST_HEIGHT) {
            return BAD_VALUE;
        }
        int number = page.blocksOf(column);
        if (number >= MOST_BLOCKS) {
            return FULL;
        }
        history.record(page);
        page.appendLineless(column, picture ? PICTURE : SPACE, height);
        layOutAgain();
        return number;
    }

    /** Puts the blocks of the text behind those of a column; returns how many it has then; errors, the fault among them. */
    public int putAll(int column) {
        if (!isColumn(column)) {
            return UNKNOWN;
        }
        int fault = text.readBlocks();
        if (fault != NONE) {
            return -100 - fault;
        }
        if (!text.allFit()) {
            return BAD_VALUE;
        }
        if (page.blocksOf(column) + text.blocks() > MOST_BLOCKS) {
            return FULL;
        }
        history.record(page);
        page.appendRows(column, text.rows(), text.blocks());
        layOutAgain();
        return page.blocksOf(column);
    }

    /** Removes a block; returns how many blocks the column has then; UNKNOWN. */
    public int remove(int column, int block) {
        if (!page.hasBlock(column, block)) {
            return UNKNOWN;
        }
        history.record(page);
        page.takeOut(column, block);
        layOutAgain();
        return page.blocksOf(column);
    }

    /** Snaps a paragraph or not; returns the end of the column then; UNKNOWN; NOT_POSSIBLE; NONE. */
    public int snap(int column, int block, boolean snapped) {
        if (!page.hasBlock(column, block)) {
            return UNKNOWN;
        }
        if (page.fieldOf(column, block, KIND) != PARAGRAPH) {
            return NOT_POSSIBLE;
        }
        int wanted = snapped ? 1 : 0;
        if (page.fieldOf(column, block, SNAPPED) == wanted) {
            return NONE;
        }
        history.record(page);
        page.changeField(column, block, SNAPPED, wanted);
        layOutAgain();
        return now.endOf(column);
    }

    // ---- flowing, spreading

    /** Lets a column flow on; returns how many blocks come to the next one; UNKNOWN; NOT_POSSIBLE; FULL; NONE. */
    public int flow(int column) {
        if (!isColumn(column)) {
            return UNKNOWN;
        }
        if (column == COLUMNS - 1) {
            return NOT_POSSIBLE;
        }
        int from = now.overflowingBlockOf(column);
        if (from == NONE) {
            return NONE;
        }
        int moved = page.blocksOf(column) - from;
        if (page.blocksOf(column + 1) + moved > MOST_BLOCKS) {
            return FULL;
        }
        history.record(page);
        page.moveToNext(column, from, linesThatStay(column, from));
        layOutAgain();
        return moved;
    }

    /** Spreads a column to a depth; returns its end then; UNKNOWN; BAD_VALUE; NONE. */
    public int spread(int column, int depth) {
        if (!isColumn(column)) {
            return UNKNOWN;
        }
        if (depth < 1 || depth > GREATEST_DEPTH) {
            return BAD_VALUE;
        }
        if (!raiseSpaces(column, depth - now.endOf(column))) {
            return NONE;
        }
        layOutAgain();
        return now.endOf(column);
    }

    // ---- texts

    /** Types a character behind the text; returns its length then; FULL. */
    public int type(char character) {
        if (!text.append(character)) {
            return FULL;
        }
        return text.length();
    }

    /** Empties the text; returns the length that it had. */
    public int clearText() {
        int length = text.length();
        text.clear();
        return length;
    }

    // ---- history

    /** Removes and restores the latest state of the history; returns how many are left; NONE. */
    public int undo() {
        if (history.states() == 0) {
            return NONE;
        }
        history.giveBack(page);
        layOutAgain();
        return history.states();
    }

    /** Takes a snapshot of the state; returns how many blocks all columns have. */
    public int keep() {
        page.copyTo(snapshot, 0);
        hasSnapshot = true;
        return page.allBlocks();
    }

    /** Restores the state of the snapshot; returns how many blocks all columns have then; NONE. */
    public int restore() {
        if (!hasSnapshot) {
            return NONE;
        }
        history.record(page);
        page.copyFrom(snapshot, 0);
        layOutAgain();
        return page.allBlocks();
    }

    // ---- what is told

    /** Tells of a block; UNKNOWN; BAD_VALUE. */
    public int block(int column, int block, int what) {
        if (!page.hasBlock(column, block)) {
            return UNKNOWN;
        }
        if (what < 0 || what > 8) {
            return BAD_VALUE;
        }
        if (what < FIELDS) {
            return page.fieldOf(column, block, what);
        }
        int setParts = now.setPartsOf(column, block);
        if (what == 8) {
            return setParts;
        }
        if (setParts == 0) {
            return NONE;
        }
        return what == 6 ? now.cursorAhead(column, block) : now.cursorBehind(column, block);
    }

    /** Tells of a set line; UNKNOWN; BAD_VALUE; NONE. */
    public int line(int column, int line, int what) {
        if (!isColumn(column)) {
            return UNKNOWN;
        }
        if (line < 0 || what < 0 || what > 4) {
            return BAD_VALUE;
        }
        if (line >= now.linesOf(column)) {
            return NONE;
        }
        int baseline = now.baselineOf(column, line);
        switch (what) {
            case 0:
                return baseline;
            case 1:
                return now.driftAt(baseline);
            case 2:
                return now.blockOfLine(column, line);
            case 3:
                return now.hasLineAt(column - 1, baseline) ? 1 : 0;
            default:
                return now.hasLineAt(column + 1, baseline) ? 1 : 0;
        }
    }

    /** Tells of a column; UNKNOWN; BAD_VALUE. */
    public int column(int column, int what) {
        if (!isColumn(column)) {
            return UNKNOWN;
        }
        switch (what) {
            case 0:
                return page.blocksOf(column);
            case 1:
                return now.linesOf(column);
            case 2:
                return now.endOf(column);
            case 3:
                return unsetLines(column);
            case 4:
                return unsetBlocks(column);
            case 5:
                return now.sumOfDrifts(column);
            case 6:
                return now.greatestDrift(column);
            case 7:
                return now.linesOnGrid(column);
            case 8:
                return now.metLines(column);
            case 9:
                return page.settingOf(PAGE_HEIGHT) - now.endOf(column);
            default:
                return BAD_VALUE;
        }
    }

    /** Tells of the baselines on which lines of two or more columns stand; BAD_VALUE; NONE. */
    public int shared(int rank, int what) {
        if (rank < 0 || what < 0 || what > 1) {
            return BAD_VALUE;
        }
        int baseline = now.sharedBaseline(rank);
        if (baseline == NONE || what == 0) {
            return baseline;
        }
        return now.columnsAt(baseline);
    }

    /** Tells what another step would bring; BAD_VALUE. */
    public int ifStep(int step, int what) {
        if (step < LEAST_STEP || step > GREATEST_STEP || what < 0 || what > 2) {
            return BAD_VALUE;
        }
        trial.layOut(page, step);
        switch (what) {
            case 0:
                return trial.sumOfAllDrifts();
            case 1:
                return trial.allLines();
            default:
                return trial.allLinesOnGrid();
        }
    }

    /** Finds the step with the least sum of drifts, of several the greatest one; BAD_VALUE. */
    public int bestStep(int from, int to) {
        if (from < LEAST_STEP || to < from || to > GREATEST_STEP) {
            return BAD_VALUE;
        }
        int best = to;
        int least = sumOfDriftsWith(to);
        // No sum is less than 0, so a smaller step can't do better than one that reached it.
        for (int step = to - 1; step >= from && least > 0; step--) {
            int sum = sumOfDriftsWith(step);
            if (sum < least) {
                least = sum;
                best = step;
            }
        }
        return best;
    }

    /** Tells of all columns, of the history, the text and the settings; BAD_VALUE. */
    public int count(int what) {
        switch (what) {
            case 0:
                return page.allBlocks();
            case 1:
                return now.allLines();
            case 2:
                return now.sumOfAllDrifts();
            case 3:
                return allUnsetLines();
            case 4:
                return now.overflowingColumns();
            case 5:
                return now.greatestEnd();
            case 6:
                return now.baselinesOnPage();
            case 7:
                return history.states();
            case 8:
                return text.length();
            case 10:
            case 11:
            case 12:
            case 13:
            case 14:
                return page.settingOf(what - 10);
            default:
                return BAD_VALUE;
        }
    }

    // ---- helpers

    private static boolean isColumn(int column) {
        return column >= 0 && column < COLUMNS;
    }

    private static boolean isFitting(int size, int leading) {
        return size >= LEAST_SIZE && leading >= size;
    }

    /** Every change of the state ends with this, so that what is told never rests on an older state. */
    private void layOutAgain() {
        now.layOut(page, page.settingOf(STEP));
    }

    private int sumOfDriftsWith(int step) {
        trial.layOut(page, step);
        return trial.sumOfAllDrifts();
    }

    private int linesThatStay(int column, int block) {
        if (page.fieldOf(column, block, KIND) != PARAGRAPH) {
            return 0;
        }
        int lines = page.fieldOf(column, block, LINES);
        int least = page.settingOf(LEAST_LINES);
        int moved = Math.max(lines - now.setPartsOf(column, block), least);
        int staying = lines - moved;
        return staying < least ? 0 : staying;
    }

    /** Shares what is missing among the spaces between set blocks; tells whether one became higher. */
    private boolean raiseSpaces(int column, int missing) {
        int top = firstSolid(column);
        int bottom = lastSolid(column);
        int spaces = spacesBetween(column, top, bottom);
        if (missing <= 0 || spaces <= 0) {
            return false;
        }
        int share = missing / spaces;
        int left = missing % spaces;
        boolean raised = false;
        for (int block = top + 1; block < bottom; block++) {
            if (page.fieldOf(column, block, KIND) != SPACE) {
                continue;
            }
            int height = page.fieldOf(column, block, BLOCK_HEIGHT);
            int wanted = Math.min(height + share + (left > 0 ? 1 : 0), GREATEST_HEIGHT);
            left--;
            if (wanted > height && !raised) {
                // Recorded only here: a call that raises no space changes nothing, the history included.
                history.record(page);
                raised = true;
            }
            page.changeField(column, block, BLOCK_HEIGHT, wanted);
        }
        return raised;
    }

    /** The first block of which something is set and that is no space; behind all blocks if there is none. */
    private int firstSolid(int column) {
        int blocks = page.blocksOf(column);
        for (int block = 0; block < blocks; block++) {
            if (isSetSolid(column, block)) {
                return block;
            }
        }
        return blocks;
    }

    private int lastSolid(int column) {
        for (int block = page.blocksOf(column) - 1; block >= 0; block--) {
            if (isSetSolid(column, block)) {
                return block;
            }
        }
        return -1;
    }

    private boolean isSetSolid(int column, int block) {
        return page.fieldOf(column, block, KIND) != SPACE && now.setPartsOf(column, block) > 0;
    }

    private int spacesBetween(int column, int top, int bottom) {
        int spaces = 0;
        for (int block = top + 1; block < bottom; block++) {
            if (page.fieldOf(column, block, KIND) == SPACE) {
                spaces++;
            }
        }
        return spaces;
    }

    private int unsetLines(int column) {
        return page.paragraphLinesOf(column) - now.linesOf(column);
    }

    private int allUnsetLines() {
        int sum = 0;
        for (int column = 0; column < COLUMNS; column++) {
            sum += unsetLines(column);
        }
        return sum;
    }

    private int unsetBlocks(int column) {
        int sum = 0;
        for (int block = 0; block < page.blocksOf(column); block++) {
            if (now.setPartsOf(column, block) == 0) {
                sum++;
            }
        }
        return sum;
    }

    // What a block does not have is held as NONE, as block() tells it.

    private static void writeParagraph(int[] row, int at, int lines, int size, int leading, boolean snapped) {
        if (at < 0 || at > row.length - FIELDS) {
            return;
        }
        row[at + KIND] = PARAGRAPH;
        row[at + LINES] = lines;
        row[at + SIZE] = size;
        row[at + LEADING] = leading;
        row[at + SNAPPED] = snapped ? 1 : 0;
        row[at + BLOCK_HEIGHT] = NONE;
    }

    private static void writeLineless(int[] row, int at, int kind, int height) {
        if (at < 0 || at > row.length - FIELDS) {
            return;
        }
        row[at + KIND] = kind;
        row[at + LINES] = NONE;
        row[at + SIZE] = NONE;
        row[at + LEADING] = NONE;
        row[at + SNAPPED] = NONE;
        row[at + BLOCK_HEIGHT] = height;
    }

    /** Copies a part of a row if both rows reach so far. */
    private static void copyCells(int[] source, int from, int[] target, int to, int cells) {
        if (cells < 0 || from < 0 || to < 0 || from > source.length - cells || to > target.length - cells) {
            return;
        }
        System.arraycopy(source, from, target, to, cells);
    }

    /** The state: the settings and the blocks of the columns. */
    private static final class Page {
        private final int[] cells = new int[STATE_CELLS];

        Page() {
            for (int what = 0; what < SETTINGS; what++) {
                cells[what] = FIRST_SETTINGS[what];
            }
        }

        int settingOf(int what) {
            return what < 0 || what >= SETTINGS ? 0 : cells[what];
        }

        void changeSetting(int what, int value) {
            if (what >= 0 && what < SETTINGS) {
                cells[what] = value;
            }
        }

        int blocksOf(int column) {
            return isColumn(column) ? cells[COUNTS_AT + column] : 0;
        }

        int allBlocks() {
            int sum = 0;
            for (int column = 0; column < COLUMNS; column++) {
                sum += blocksOf(column);
            }
            return sum;
        }

        boolean hasBlock(int column, int block) {
            return block >= 0 && block < blocksOf(column);
        }

        int paragraphLinesOf(int column) {
            int sum = 0;
            for (int block = 0; block < blocksOf(column); block++) {
                if (fieldOf(column, block, KIND) == PARAGRAPH) {
                    sum += fieldOf(column, block, LINES);
                }
            }
            return sum;
        }

        int fieldOf(int column, int block, int field) {
            return isCell(column, block, field) ? cells[cellAt(column, block) + field] : NONE;
        }

        void changeField(int column, int block, int field, int value) {
            if (isCell(column, block, field)) {
                cells[cellAt(column, block) + field] = value;
            }
        }

        void appendParagraph(int column, int lines, int size, int leading, boolean snapped) {
            if (hasRoom(column)) {
                writeParagraph(cells, cellAt(column, blocksOf(column)), lines, size, leading, snapped);
                changeBlocks(column, blocksOf(column) + 1);
            }
        }

        void appendLineless(int column, int kind, int height) {
            if (hasRoom(column)) {
                writeLineless(cells, cellAt(column, blocksOf(column)), kind, height);
                changeBlocks(column, blocksOf(column) + 1);
            }
        }

        /** Appends blocks whose fields stand in a row as they do here. */
        void appendRows(int column, int[] rows, int blocks) {
            if (isColumn(column) && blocks >= 0 && blocks <= MOST_BLOCKS - blocksOf(column)) {
                copyCells(rows, 0, cells, cellAt(column, blocksOf(column)), blocks * FIELDS);
                changeBlocks(column, blocksOf(column) + blocks);
            }
        }

        void takeOut(int column, int block) {
            if (hasBlock(column, block)) {
                int behind = blocksOf(column) - 1 - block;
                moveBlocks(cellAt(column, block + 1), cellAt(column, block), behind);
                changeBlocks(column, blocksOf(column) - 1);
            }
        }

        /** Moves the blocks from one on to the top of the next column; of that one some lines may stay. */
        void moveToNext(int column, int from, int staying) {
            int next = column + 1;
            int moved = blocksOf(column) - from;
            if (!isColumn(next) || !hasBlock(column, from) || blocksOf(next) + moved > MOST_BLOCKS) {
                return;
            }
            moveBlocks(cellAt(next, 0), cellAt(next, moved), blocksOf(next));
            moveBlocks(cellAt(column, from), cellAt(next, 0), moved);
            changeBlocks(next, blocksOf(next) + moved);
            changeBlocks(column, from);
            if (staying > 0) {
                changeBlocks(column, from + 1);
                changeField(next, 0, LINES, fieldOf(next, 0, LINES) - staying);
                changeField(column, from, LINES, staying);
            }
        }

        void copyTo(int[] row, int at) {
            copyCells(cells, 0, row, at, STATE_CELLS);
        }

        void copyFrom(int[] row, int at) {
            copyCells(row, at, cells, 0, STATE_CELLS);
        }

        private void moveBlocks(int from, int to, int blocks) {
            copyCells(cells, from, cells, to, blocks * FIELDS);
        }

        private boolean hasRoom(int column) {
            return isColumn(column) && blocksOf(column) < MOST_BLOCKS;
        }

        private void changeBlocks(int column, int blocks) {
            if (isColumn(column) && blocks >= 0 && blocks <= MOST_BLOCKS) {
                cells[COUNTS_AT + column] = blocks;
            }
        }

        private static int cellAt(int column, int block) {
            return BLOCKS_AT + (column * MOST_BLOCKS + block) * FIELDS;
        }

        private static boolean isCell(int column, int block, int field) {
            return isColumn(column) && block >= 0 && block < MOST_BLOCKS && field >= 0 && field < FIELDS;
        }
    }

    /** What of a page is set, and where, on a grid with some step. */
    private static final class Layout {
        private final int[] lineCounts = new int[COLUMNS];
        private final int[] ends = new int[COLUMNS];
        private final int[] overflowing = new int[COLUMNS];
        private final int[] ahead = new int[COLUMNS * MOST_BLOCKS];
        private final int[] behind = new int[COLUMNS * MOST_BLOCKS];
        private final int[] setParts = new int[COLUMNS * MOST_BLOCKS];
        private final int[] baselines = new int[COLUMNS * MOST_COLUMN_LINES];
        private final int[] lineBlocks = new int[COLUMNS * MOST_COLUMN_LINES];
        private final int[] reached = new int[COLUMNS];
        private int height;
        private int first;
        private int step;
        private boolean rounding;
        private int cursor;

        // ---- laying out

        void layOut(Page page, int gridStep) {
            height = page.settingOf(PAGE_HEIGHT);
            first = page.settingOf(FIRST_BASELINE);
            rounding = page.settingOf(ROUNDING) == 1;
            step = gridStep;
            for (int column = 0; column < COLUMNS; column++) {
                cursor = 0;
                lineCounts[column] = 0;
                overflowing[column] = NONE;
                for (int block = 0; block < page.blocksOf(column); block++) {
                    layBlock(page, column, block);
                }
                ends[column] = cursor;
            }
        }

        /** Sets what does not overflow of a block; behind what overflows nothing is set. */
        private void layBlock(Page page, int column, int block) {
            if (!isBlockPlace(column, block)) {
                return;
            }
            int place = column * MOST_BLOCKS + block;
            ahead[place] = cursor;
            setParts[place] = 0;
            if (overflowing[column] == NONE) {
                switch (page.fieldOf(column, block, KIND)) {
                    case PARAGRAPH:
                        setParts[place] = layLines(page, column, block);
                        break;
                    case PICTURE:
                        setParts[place] = layPicture(page, column, block);
                        break;
                    default:
                        setParts[place] = laySpace(page, column, block);
                }
            }
            behind[place] = cursor;
        }

        /** Sets the lines that do not overflow; returns how many these are. */
        private int layLines(Page page, int column, int block) {
            int lines = page.fieldOf(column, block, LINES);
            int size = page.fieldOf(column, block, SIZE);
            int leading = page.fieldOf(column, block, LEADING);
            boolean snapped = page.fieldOf(column, block, SNAPPED) == 1;
            int descent = 3 * size / 10;
            int baseline = cursor + 7 * size / 10;
            for (int line = 0; line < lines; line++) {
                if (line > 0) {
                    baseline += leading;
                }
                if (snapped) {
                    baseline = nextOnGrid(baseline);
                }
                if (baseline + descent > height) {
                    markOverflow(column, block);
                    return line;
                }
                addLine(column, block, baseline);
                cursor = baseline + descent;
            }
            return lines;
        }

        private int layPicture(Page page, int column, int block) {
            int bottom = cursor + page.fieldOf(column, block, BLOCK_HEIGHT);
            if (bottom > height) {
                markOverflow(column, block);
                return 0;
            }
            cursor = rounding ? nextOnGrid(bottom) : bottom;
            return 1;
        }

        private int laySpace(Page page, int column, int block) {
            if (cursor != 0) {
                cursor += page.fieldOf(column, block, BLOCK_HEIGHT);
            }
            return 1;
        }

        private void markOverflow(int column, int block) {
            if (isColumn(column)) {
                overflowing[column] = block;
            }
        }

        private void addLine(int column, int block, int baseline) {
            int line = linesOf(column);
            if (isLinePlace(column, line)) {
                baselines[column * MOST_COLUMN_LINES + line] = baseline;
                lineBlocks[column * MOST_COLUMN_LINES + line] = block;
                lineCounts[column] = line + 1;
            }
        }

        // ---- the grid

        private int nextOnGrid(int place) {
            if (place <= first) {
                return first;
            }
            return place + Math.floorMod(first - place, positiveStep());
        }

        int driftAt(int baseline) {
            return Math.floorMod(baseline - first, positiveStep());
        }

        /** A line above the first baseline is on no baseline of the grid, even if its drift is 0. */
        private boolean isOnGrid(int baseline) {
            return baseline >= first && driftAt(baseline) == 0;
        }

        int baselinesOnPage() {
            return first > height ? 0 : (height - first) / positiveStep() + 1;
        }

        /** The step as a divisor, which is looked at before it divides. */
        private int positiveStep() {
            return step > 0 ? step : 1;
        }

        // ---- blocks

        int cursorAhead(int column, int block) {
            return isBlockPlace(column, block) ? ahead[column * MOST_BLOCKS + block] : NONE;
        }

        int cursorBehind(int column, int block) {
            return isBlockPlace(column, block) ? behind[column * MOST_BLOCKS + block] : NONE;
        }

        /** How many lines of a paragraph are set; 1 for another block that is set. */
        int setPartsOf(int column, int block) {
            return isBlockPlace(column, block) ? setParts[column * MOST_BLOCKS + block] : 0;
        }

        // ---- columns and lines

        int linesOf(int column) {
            return isColumn(column) ? lineCounts[column] : 0;
        }

        int endOf(int column) {
            return isColumn(column) ? ends[column] : 0;
        }

        /** The first block of which something overflows, or NONE. */
        int overflowingBlockOf(int column) {
            return isColumn(column) ? overflowing[column] : NONE;
        }

        int baselineOf(int column, int line) {
            return isLinePlace(column, line) ? baselines[column * MOST_COLUMN_LINES + line] : NONE;
        }

        int blockOfLine(int column, int line) {
            return isLinePlace(column, line) ? lineBlocks[column * MOST_COLUMN_LINES + line] : NONE;
        }

        boolean hasLineAt(int column, int baseline) {
            for (int line = 0; line < linesOf(column); line++) {
                if (baselineOf(column, line) == baseline) {
                    return true;
                }
            }
            return false;
        }

        int sumOfDrifts(int column) {
            int sum = 0;
            for (int line = 0; line < linesOf(column); line++) {
                sum += driftAt(baselineOf(column, line));
            }
            return sum;
        }

        int greatestDrift(int column) {
            int greatest = 0;
            for (int line = 0; line < linesOf(column); line++) {
                greatest = Math.max(greatest, driftAt(baselineOf(column, line)));
            }
            return greatest;
        }

        int linesOnGrid(int column) {
            int sum = 0;
            for (int line = 0; line < linesOf(column); line++) {
                if (isOnGrid(baselineOf(column, line))) {
                    sum++;
                }
            }
            return sum;
        }

        int metLines(int column) {
            int sum = 0;
            for (int line = 0; line < linesOf(column); line++) {
                int baseline = baselineOf(column, line);
                if (hasLineAt(column - 1, baseline) || hasLineAt(column + 1, baseline)) {
                    sum++;
                }
            }
            return sum;
        }

        // ---- all columns

        int allLines() {
            int sum = 0;
            for (int column = 0; column < COLUMNS; column++) {
                sum += linesOf(column);
            }
            return sum;
        }

        int sumOfAllDrifts() {
            int sum = 0;
            for (int column = 0; column < COLUMNS; column++) {
                sum += sumOfDrifts(column);
            }
            return sum;
        }

        int allLinesOnGrid() {
            int sum = 0;
            for (int column = 0; column < COLUMNS; column++) {
                sum += linesOnGrid(column);
            }
            return sum;
        }

        int overflowingColumns() {
            int sum = 0;
            for (int column = 0; column < COLUMNS; column++) {
                if (overflowingBlockOf(column) != NONE) {
                    sum++;
                }
            }
            return sum;
        }

        int greatestEnd() {
            int greatest = 0;
            for (int column = 0; column < COLUMNS; column++) {
                greatest = Math.max(greatest, endOf(column));
            }
            return greatest;
        }

        int columnsAt(int baseline) {
            int sum = 0;
            for (int column = 0; column < COLUMNS; column++) {
                if (hasLineAt(column, baseline)) {
                    sum++;
                }
            }
            return sum;
        }

        /** Goes down the lines of all columns at once; returns the shared baseline of a rank, or NONE. */
        int sharedBaseline(int rank) {
            int found = 0;
            for (int column = 0; column < COLUMNS; column++) {
                reached[column] = 0;
            }
            // Each turn passes one line or more.
            for (int turn = 0; turn < COLUMNS * MOST_COLUMN_LINES; turn++) {
                int baseline = uppermostReached();
                if (baseline == NONE) {
                    return NONE;
                }
                if (passLinesAt(baseline) >= 2) {
                    if (found == rank) {
                        return baseline;
                    }
                    found++;
                }
            }
            return NONE;
        }

        private int uppermostReached() {
            int uppermost = NONE;
            for (int column = 0; column < COLUMNS; column++) {
                if (reached[column] < linesOf(column)) {
                    int baseline = baselineOf(column, reached[column]);
                    uppermost = uppermost == NONE ? baseline : Math.min(uppermost, baseline);
                }
            }
            return uppermost;
        }

        /** No two lines of a column stand on one baseline, so one line of each column is passed at most. */
        private int passLinesAt(int baseline) {
            int passed = 0;
            for (int column = 0; column < COLUMNS; column++) {
                if (reached[column] < linesOf(column) && baselineOf(column, reached[column]) == baseline) {
                    reached[column]++;
                    passed++;
                }
            }
            return passed;
        }

        private static boolean isBlockPlace(int column, int block) {
            return isColumn(column) && block >= 0 && block < MOST_BLOCKS;
        }

        private static boolean isLinePlace(int column, int line) {
            return isColumn(column) && line >= 0 && line < MOST_COLUMN_LINES;
        }
    }

    /** The latest states, the oldest one first. */
    private static final class History {
        private final int[] rows = new int[MOST_STATES * STATE_CELLS];
        private int states = 0;

        int states() {
            return states;
        }

        void record(Page page) {
            if (states >= MOST_STATES) {
                copyCells(rows, STATE_CELLS, rows, 0, (MOST_STATES - 1) * STATE_CELLS);
                states = MOST_STATES - 1;
            }
            page.copyTo(rows, states * STATE_CELLS);
            states++;
        }

        void giveBack(Page page) {
            if (states > 0) {
                states--;
                page.copyFrom(rows, states * STATE_CELLS);
            }
        }
    }

    /** The text that is typed. Its blocks are read from the left, and where that stops there is the fault. */
    private static final class Text {
        private final char[] characters = new char[MOST_CHARACTERS];
        private int length = 0;
        private final int[] rows = new int[MOST_TEXT_BLOCKS * FIELDS];
        private int blocks = 0;
        private boolean allFit = true;
        private int at = 0;
        private int number = 0;

        // ---- typing

        int length() {
            return length;
        }

        /** Tells whether there was room. */
        boolean append(char character) {
            if (length < 0 || length >= MOST_CHARACTERS) {
                return false;
            }
            characters[length] = character;
            length++;
            return true;
        }

        void clear() {
            length = 0;
        }

        // ---- reading

        /** How many blocks were read. */
        int blocks() {
            return blocks;
        }

        /** Whether no size is below the least one, and no leading below its size. */
        boolean allFit() {
            return allFit;
        }

        int[] rows() {
            return rows;
        }

        /** Reads the text anew; returns its fault, or NONE. */
        int readBlocks() {
            blocks = 0;
            allFit = true;
            at = 0;
            for (int turn = 0; turn <= MOST_CHARACTERS; turn++) {
                if (!readBlock()) {
                    return at;
                }
                if (at >= length) {
                    return NONE;
                }
                if (!passes(';')) {
                    return at;
                }
            }
            return at;
        }

        private boolean readBlock() {
            if (passes('p')) {
                return readParagraph();
            }
            if (passes('i')) {
                return readLineless(PICTURE);
            }
            return passes('s') && readLineless(SPACE);
        }

        private boolean readParagraph() {
            if (!readNumber(MOST_LINES)) {
                return false;
            }
            int lines = number;
            if (!passes('*') || !readNumber(GREATEST_SIZE)) {
                return false;
            }
            int size = number;
            if (!passes('/') || !readNumber(GREATEST_LEADING)) {
                return false;
            }
            int leading = number;
            boolean snapped = passes('!');
            writeParagraph(rows, blocks * FIELDS, lines, size, leading, snapped);
            blocks++;
            allFit = allFit && isFitting(size, leading);
            return true;
        }

        private boolean readLineless(int kind) {
            if (!readNumber(GREATEST_HEIGHT)) {
                return false;
            }
            writeLineless(rows, blocks * FIELDS, kind, number);
            blocks++;
            return true;
        }

        /** Stops ahead of a digit that is not allowed: none of the signs that are due behind a number is a digit. */
        private boolean readNumber(int greatest) {
            number = 0;
            for (; at < length; at++) {
                int digit = digitAt(at);
                int longer = number * 10 + digit;
                if (digit == NONE || longer == 0 || longer > greatest) {
                    break;
                }
                number = longer;
            }
            return number > 0;
        }

        private boolean passes(char character) {
            if (!isIndex(at) || characters[at] != character) {
                return false;
            }
            at++;
            return true;
        }

        /** The value of the digit at an index, or NONE. */
        private int digitAt(int index) {
            if (!isIndex(index) || characters[index] < '0' || characters[index] > '9') {
                return NONE;
            }
            return characters[index] - '0';
        }

        private boolean isIndex(int index) {
            return index >= 0 && index < length && index < MOST_CHARACTERS;
        }
    }
}
