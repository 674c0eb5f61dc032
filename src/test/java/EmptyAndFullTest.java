import java.util.List;

/** The empty and the full column, text, history and snapshot; what a state is, and what is none of it. */
public final class EmptyAndFullTest {
    private static final int UNKNOWN = -1;
    private static final int FULL = -3;
    private static final int NOT_POSSIBLE = -4;
    private static final int NONE = -5;
    private static final String SIXTEEN = "s1;s1;s1;s1;s1;s1;s1;s1;s1;s1;s1;s1;s1;s1;s1;s1";

    public static void main(String[] args) {
        theEmptyColumn();
        theColumnThatIsEmptyAgain();
        theFullColumn();
        allOfThemOrNone();
        theFullColumnThatHasRoomAgain();
        theEmptyText();
        theTextStays();
        theEmptyHistory();
        theOldestStateIsDropped();
        aStateIsTheWholeOne();
        anUndoIsNoAct();
        theEmptySnapshot();
        aSnapshotOfEmptyColumns();
        aSnapshotIsReplaced();
        theSnapshotStays();
        restoringIsAnActAlways();
        restoringDropsTheOldestState();
        theTextIsNoState();
        theSnapshotIsNoState();
        numbersOfBlocks();
        endsThatSnapTells();
        theLastCalls();
        Due.end();
    }

    private static void theEmptyColumn() {
        for (int column = 0; column < 4; column++) {
            BaselineGrid x = new BaselineGrid();
            Due.is("remove", x.remove(column, 0), UNKNOWN);
            Due.is("snap", x.snap(column, 0, true), UNKNOWN);
            Due.is("block", x.block(column, 0, 0), UNKNOWN);
            Due.is("line", x.line(column, 0, 0), NONE);
            Due.is("flow", x.flow(column), column == 3 ? NOT_POSSIBLE : NONE);
            Due.is("spread", x.spread(column, 9999), NONE);
            for (int what = 0; what < 9; what++) {
                Due.is("column(.., " + what + ")", x.column(column, what), 0);
            }
            Due.is("what is left", x.column(column, 9), 6000);
            Due.is("paragraph", x.paragraph(column, 1, 40, 40, true), 0);
        }
        BaselineGrid y = new BaselineGrid();
        Due.is("ifStep, no lines", y.ifStep(77, 0) + y.ifStep(77, 1) + y.ifStep(77, 2), 0);
        Due.is("bestStep, no lines: the greatest of all", y.bestStep(20, 500), 500);
        Due.is("shared, no lines", y.shared(0, 0), NONE);
    }

    private static void theColumnThatIsEmptyAgain() {
        BaselineGrid x = new BaselineGrid();
        x.paragraph(0, 3, 100, 120, true);
        x.paragraph(1, 3, 100, 120, true);
        Due.is("met lines", x.column(1, 8), 3);
        Due.is("remove the last block", x.remove(0, 0), 0);
        for (int what = 0; what < 9; what++) {
            Due.is("column(0, " + what + ")", x.column(0, what), 0);
        }
        Due.is("block(0, 0, 0)", x.block(0, 0, 0), UNKNOWN);
        Due.is("line(0, 0, 0)", x.line(0, 0, 0), NONE);
        Due.is("met lines of the other one", x.column(1, 8), 0);
        Due.is("shared(0, 0)", x.shared(0, 0), NONE);
        Due.is("put into it", x.put(0, true, 5), 0);
    }

    private static BaselineGrid withBlocks(int column, int blocks) {
        BaselineGrid x = new BaselineGrid();
        for (int block = 0; block < blocks; block++) {
            x.put(column, true, 1 + block);
        }
        return x;
    }

    /** "a column has at most 16 blocks"; "FULL if the column has 16 blocks". */
    private static void theFullColumn() {
        for (int column = 0; column < 4; column++) {
            Due.is("the 16th picture", withBlocks(column, 15).put(column, true, 9), 15);
            Due.is("the 16th space", withBlocks(column, 15).put(column, false, 9), 15);
            Due.is("the 16th paragraph", withBlocks(column, 15).paragraph(column, 1, 40, 40, true), 15);
            BaselineGrid x = withBlocks(column, 16);
            Due.is("the 17th picture", x.put(column, true, 9), FULL);
            Due.is("the 17th space", x.put(column, false, 9), FULL);
            Due.is("the 17th paragraph", x.paragraph(column, 1, 40, 40, true), FULL);
            Due.is("its blocks", x.column(column, 0), 16);
            Due.is("blocks of all columns", x.count(0), 16);
            for (int other = 0; other < 4; other++) {
                if (other != column) {
                    Due.is("put into another one", x.put(other, true, 9), 0);
                }
            }
            Due.is("the last block", x.block(column, 15, 5), 16);
        }
        BaselineGrid all = new BaselineGrid();
        Due.types(all, SIXTEEN);
        for (int column = 0; column < 4; column++) {
            Due.is("putAll(" + column + ")", all.putAll(column), 16);
        }
        Due.is("64 blocks", all.count(0), 64);
        Due.is("keep()", all.keep(), 64);
        Due.is("restore()", all.restore(), 64);
    }

    /** "all of them, or none"; "FULL if the column would have more than 16 blocks". */
    private static void allOfThemOrNone() {
        for (int there = 0; there <= 16; there++) {
            BaselineGrid x = withBlocks(2, there);
            Due.types(x, "i100;s100;i100");
            Due.is("3 behind " + there, x.putAll(2), there <= 13 ? there + 3 : FULL);
            Due.is("blocks then", x.column(2, 0), there <= 13 ? there + 3 : there);
            Due.is("the text stays", x.count(8), 14);
        }
        for (int there = 0; there <= 1; there++) {
            BaselineGrid x = withBlocks(0, there);
            Due.types(x, SIXTEEN);
            Due.is("16 behind " + there, x.putAll(0), there == 0 ? 16 : FULL);
            Due.is("blocks then", x.column(0, 0), there == 0 ? 16 : 1);
        }
        BaselineGrid y = new BaselineGrid();
        Due.types(y, SIXTEEN + ";s1");
        Due.is("17 into an empty column", y.putAll(0), FULL);
        Due.is("no blocks then", y.column(0, 0), 0);
    }

    private static void theFullColumnThatHasRoomAgain() {
        for (int column = 0; column < 4; column++) {
            for (int block = 0; block < 16; block++) {
                BaselineGrid x = withBlocks(column, 16);
                int other = (column + 1) % 4;
                x.put(other, false, 77);
                Due.is("remove " + block, x.remove(column, block), 15);
                for (int left = 0; left < 15; left++) {
                    Due.is("block " + left + " then", x.block(column, left, 5), left < block ? left + 1 : left + 2);
                }
                Due.is("no 16th block", x.block(column, 15, 5), UNKNOWN);
                Due.is("put", x.put(column, true, 99), 15);
                Due.is("the 17th block", x.put(column, true, 99), FULL);
                Due.is("another column", x.block(other, 0, 5), 77);
            }
        }
    }

    /** "There is a text .., empty at first"; "(the empty text does)". */
    private static void theEmptyText() {
        BaselineGrid x = new BaselineGrid();
        Due.is("its length", x.count(8), 0);
        Due.is("clearText()", x.clearText(), 0);
        Due.is("putAll(0)", x.putAll(0), -100);
        Due.types(x, "i1");
        Due.is("clearText()", x.clearText(), 2);
        Due.is("its length again", x.count(8), 0);
        Due.is("putAll(0) again", x.putAll(0), -100);
        Due.is("type", x.type('s'), 1);
    }

    /** "the blocks of the text, which stays". */
    private static void theTextStays() {
        BaselineGrid x = new BaselineGrid();
        Due.types(x, "i5;s6");
        for (int times = 1; times <= 8; times++) {
            Due.is("putAll(0)", x.putAll(0), 2 * times);
            Due.is("its length", x.count(8), 5);
        }
        Due.is("putAll(0) into a full column", x.putAll(0), FULL);
        Due.is("its length", x.count(8), 5);
        Due.is("a character more", x.type('0'), 6);
        Due.is("putAll(1)", x.putAll(1), 2);
        Due.is("the longer number", x.block(1, 1, 5), 60);
    }

    private static void theEmptyHistory() {
        BaselineGrid x = new BaselineGrid();
        Due.is("undo()", x.undo(), NONE);
        Due.is("count(7)", x.count(7), 0);
        x.put(0, true, 5);
        Due.is("undo() of one", x.undo(), 0);
        Due.is("undo() of none", x.undo(), NONE);
        Due.is("the column", x.column(0, 0), 0);
        Due.is("count(7) then", x.count(7), 0);
    }

    /** "A history of at most 4 states is kept; when one more is recorded, the oldest one is dropped". */
    private static void theOldestStateIsDropped() {
        for (int acts = 0; acts <= 9; acts++) {
            BaselineGrid x = withBlocks(0, acts);
            int states = Math.min(acts, 4);
            Due.is("states behind " + acts, x.count(7), states);
            for (int undone = 1; undone <= states; undone++) {
                Due.is("undo() " + undone + " of " + acts, x.undo(), states - undone);
                Due.is("blocks", x.column(0, 0), acts - undone);
            }
            Due.is("undo() of none behind " + acts, x.undo(), NONE);
            Due.is("blocks", x.column(0, 0), acts - states);
        }
    }

    /** "A state is everything but the text, the history and the snapshot." */
    private static void aStateIsTheWholeOne() {
        for (int undone = 1; undone <= 4; undone++) {
            BaselineGrid x = withActs(4);
            for (int i = 1; i <= undone; i++) {
                Due.is("undo()", x.undo(), 4 - i);
            }
            Due.is("as it was " + undone + " acts ago", Look.at(x).equals(Look.at(withActs(4 - undone))) ? 1 : 0, 1);
            Due.is("not as it is", Look.at(x).equals(Look.at(withActs(4))) ? 1 : 0, 0);
        }
    }

    /** Two acts that are forgotten if 4 more follow, and so many of these. */
    private static BaselineGrid withActs(int acts) {
        BaselineGrid x = new BaselineGrid();
        x.paragraph(0, 3, 100, 120, true);
        x.put(2, true, 30);
        if (acts >= 1) {
            x.set(1, 77);
        }
        if (acts >= 2) {
            x.snap(0, 0, false);
        }
        if (acts >= 3) {
            x.remove(2, 0);
        }
        if (acts >= 4) {
            x.put(3, false, 44);
        }
        return x;
    }

    private static void anUndoIsNoAct() {
        BaselineGrid x = withBlocks(0, 2);
        Due.is("undo()", x.undo(), 1);
        Due.is("undo() goes on", x.undo(), 0);
        Due.is("blocks", x.column(0, 0), 0);
        Due.is("it can't be undone", x.undo(), NONE);
        x.put(0, true, 8);
        x.undo();
        x.put(0, true, 9);
        Due.is("states behind another act", x.count(7), 1);
        Due.is("the block", x.block(0, 0, 5), 9);
    }

    /** "There is one snapshot, empty at first"; "NONE if there is no snapshot". */
    private static void theEmptySnapshot() {
        BaselineGrid x = withBlocks(0, 2);
        Due.is("restore()", x.restore(), NONE);
        Due.is("blocks", x.column(0, 0), 2);
        Due.is("states", x.count(7), 2);
        x.undo();
        Due.is("restore() behind an undo", x.restore(), NONE);
    }

    private static void aSnapshotOfEmptyColumns() {
        BaselineGrid x = new BaselineGrid();
        Due.is("keep()", x.keep(), 0);
        Due.is("restore() is not NONE", x.restore(), 0);
        x.set(0, 300);
        x.put(3, true, 8);
        Due.is("restore() empties the columns", x.restore(), 0);
        Due.is("column 3", x.column(3, 0), 0);
        Due.is("the height of the page", x.count(10), 6000);
    }

    /** "Takes a snapshot of the state, in place of the one that was." */
    private static void aSnapshotIsReplaced() {
        BaselineGrid x = withBlocks(0, 1);
        Due.is("keep() of 1", x.keep(), 1);
        x.put(2, true, 5);
        x.put(3, true, 5);
        Due.is("keep() of 3", x.keep(), 3);
        x.remove(0, 0);
        x.remove(2, 0);
        Due.is("keep() of 1 again", x.keep(), 1);
        x.undo();
        Due.is("blocks", x.count(0), 2);
        Due.is("restore()", x.restore(), 1);
        Due.is("the block of the latest snapshot", x.column(3, 0), 1);
    }

    /** "Restores the state of the snapshot, which stays." */
    private static void theSnapshotStays() {
        BaselineGrid x = withBlocks(0, 2);
        x.keep();
        List<Integer> kept = Look.at(x);
        for (int times = 0; times < 3; times++) {
            x.remove(0, 1);
            x.snap(0, 0, true);
            x.set(2, 20 + times);
            x.paragraph(1, 2, 40, 50, false);
            Due.is("restore()", x.restore(), 2);
            Due.is("as it was kept", Look.at(x).equals(kept) ? 1 : 0, 1);
        }
    }

    /** "This is an act", also if the state is that of the snapshot already: it returns NONE only if there is none. */
    private static void restoringIsAnActAlways() {
        BaselineGrid x = withBlocks(0, 1);
        x.keep();
        Due.is("restore()", x.restore(), 1);
        Due.is("states", x.count(7), 2);
        x.put(0, true, 2);
        Due.is("restore()", x.restore(), 1);
        Due.is("undo() of restore()", x.undo(), 3);
        Due.is("blocks", x.column(0, 0), 2);
    }

    private static void restoringDropsTheOldestState() {
        BaselineGrid x = withBlocks(0, 4);
        x.keep();
        x.restore();
        Due.is("states", x.count(7), 4);
        for (int left = 3; left >= 0; left--) {
            x.undo();
        }
        Due.is("the empty state is dropped", x.column(0, 0), 1);
    }

    private static void theTextIsNoState() {
        BaselineGrid x = new BaselineGrid();
        Due.types(x, "i7");
        x.putAll(0);
        x.keep();
        x.type('7');
        Due.is("type is no act", x.count(7), 1);
        x.undo();
        Due.is("the text behind undo()", x.count(8), 3);
        Due.is("restore()", x.restore(), 1);
        Due.is("the text behind restore()", x.count(8), 3);
        x.putAll(0);
        Due.is("the block of the longer text", x.block(0, 1, 5), 77);
        Due.is("states", x.count(7), 2);
        Due.is("clearText()", x.clearText(), 3);
        Due.is("clearText() is no act", x.count(7), 2);
        x.undo();
        Due.is("the text is empty still", x.count(8), 0);
    }

    private static void theSnapshotIsNoState() {
        BaselineGrid x = withBlocks(0, 1);
        x.put(0, true, 5);
        Due.is("keep()", x.keep(), 2);
        Due.is("keep() is no act", x.count(7), 2);
        x.undo();
        x.undo();
        Due.is("restore() behind undo()", x.restore(), 2);
        x.undo();
        Due.is("restore() behind the undo() of restore()", x.restore(), 2);
    }

    /** "Returns its number in the column"; "those behind it have numbers that are 1 less then". */
    private static void numbersOfBlocks() {
        BaselineGrid x = new BaselineGrid();
        Due.is("a paragraph", x.paragraph(2, 1, 40, 40, true), 0);
        Due.is("a picture", x.put(2, true, 1), 1);
        Due.is("a space", x.put(2, false, 2), 2);
        Due.types(x, "i3;s4");
        Due.is("a text", x.putAll(2), 5);
        Due.is("another column", x.put(3, true, 9), 0);
        Due.is("remove(2, 0)", x.remove(2, 0), 4);
        for (int block = 0; block < 4; block++) {
            Due.is("block " + block, x.block(2, block, 5), 1 + block);
        }
        Due.is("remove(2, 3)", x.remove(2, 3), 3);
        Due.is("remove(2, 3) again", x.remove(2, 3), UNKNOWN);
        Due.is("put again", x.put(2, true, 8), 3);
        Due.is("the other column", x.block(3, 0, 5), 9);
    }

    /** "Returns the end of the column then; .. NOT_POSSIBLE if it is no paragraph; NONE if it is so already." */
    private static void endsThatSnapTells() {
        BaselineGrid x = new BaselineGrid();
        x.paragraph(1, 1, 40, 40, false);
        x.put(1, true, 7);
        x.put(1, false, 9);
        x.set(3, 0);
        Due.is("snapped", x.snap(1, 0, true), 128);
        Due.is("snapped already", x.snap(1, 0, true), NONE);
        Due.is("unsnapped", x.snap(1, 0, false), 56);
        Due.is("unsnapped already", x.snap(1, 0, false), NONE);
        Due.is("a picture", x.snap(1, 1, true), NOT_POSSIBLE);
        Due.is("a picture, not snapped", x.snap(1, 1, false), NOT_POSSIBLE);
        Due.is("a space", x.snap(1, 2, true), NOT_POSSIBLE);
        Due.is("a space, not snapped", x.snap(1, 2, false), NOT_POSSIBLE);
        x.set(0, 200);
        x.paragraph(2, 1, 300, 300, false);
        Due.is("a paragraph that overflows", x.snap(2, 0, true), 0);
    }

    /** "An object is used for at most 512 calls": the last ones are answered as the first ones. */
    private static void theLastCalls() {
        BaselineGrid x = new BaselineGrid();
        for (int call = 1; call <= 508; call += 4) {
            Due.is("call " + call, x.put(0, true, 1 + call % 3000), 0);
            Due.is("the next one", x.column(0, 0), 1);
            Due.is("the next one", x.remove(0, 0), 0);
            Due.is("the next one", x.count(7), Math.min(4, (call + 1) / 2 + 1));
        }
        Due.is("call 509", x.undo(), 3);
        Due.is("call 510", x.block(0, 0, 5), 506);
        Due.is("call 511", x.undo(), 2);
        Due.is("call 512", x.column(0, 0), 0);
    }
}
