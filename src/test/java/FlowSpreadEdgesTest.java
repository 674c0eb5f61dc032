/** The sentences of FLOWING and SPREADING that name an edge, each with what is just on it and what is one beyond. */
public final class FlowSpreadEdgesTest {
    private static final int FULL = -3;
    private static final int NOT_POSSIBLE = -4;
    private static final int NONE = -5;

    public static void main(String[] args) {
        onlyIfSomethingOverflows();
        theFirstThatOverflowsAndAllBehind();
        everyDivision();
        theLeastLinesToMove();
        theLeastLinesToStay();
        noLineIsSet();
        thePartsOfAParagraph();
        theLastColumn();
        roomInTheNextColumn();
        aDividedParagraphNeedsRoom();
        aColumnThatBecomesEmpty();
        whatTheDepthIsGreater();
        spacesBetweenSetBlocks();
        behindMustBeSet();
        theShareIsRoundedDown();
        noneHigherThan3000();
        theRestIsLostAt3000();
        linesAndPicturesAreMovedAgain();
        oneActEach();
        Due.end();
    }

    /** A page of this height, without rounding. */
    private static BaselineGrid page(int height) {
        BaselineGrid x = new BaselineGrid();
        x.set(3, 0);
        x.set(0, height);
        return x;
    }

    private static BaselineGrid withText(int height, String text) {
        BaselineGrid x = page(height);
        Due.types(x, text);
        x.putAll(0);
        return x;
    }

    // ---- flowing

    /** "If something of a column overflows, the column can flow on". */
    private static void onlyIfSomethingOverflows() {
        Due.is("an empty column", page(300).flow(0), NONE);
        Due.is("a picture to the height", withText(300, "i300").flow(0), NONE);
        Due.is("a picture to 1 below it", withText(300, "i301").flow(0), 1);
        Due.is("a line to the height", withText(300, "i200;p1*100/100").flow(0), NONE);
        Due.is("a line to 1 below it", withText(300, "i201;p1*100/100").flow(0), 1);
        Due.is("a space to 1 below it", withText(300, "i200;s101").flow(0), NONE);
        Due.is("a picture behind that", withText(300, "i200;s101;i1").flow(0), 1);
        Due.is("a space behind what overflows", withText(300, "i301;s1").flow(0), 2);
    }

    /** "the first block of which something overflows, and all blocks behind it, .. ahead of its blocks, in their order". */
    private static void theFirstThatOverflowsAndAllBehind() {
        for (int first = 0; first < 5; first++) {
            BaselineGrid x = page(300);
            for (int block = 0; block < 5; block++) {
                x.put(1, true, block == first ? 291 : 10 + block);
            }
            x.put(2, true, 21);
            x.put(2, false, 22);
            int from = first == 0 ? 1 : first;
            Due.is("flow from " + from, x.flow(1), 5 - from);
            Due.is("blocks that stay", x.column(1, 0), from);
            Due.is("blocks of the next one", x.column(2, 0), 5 - from + 2);
            for (int block = from; block < 5; block++) {
                Due.is("moved block " + block, x.block(2, block - from, 5), block == first ? 291 : 10 + block);
            }
            Due.is("the blocks that were there", x.block(2, 5 - from, 5) * 100 + x.block(2, 6 - from, 5), 2122);
            Due.is("other columns", x.column(0, 0) + x.column(3, 0), 0);
        }
    }

    /** A paragraph of which some lines fit: how many stay, by the words of the document. */
    private static int staying(int lines, int set, int least) {
        int others = lines - set;
        int stay = set;
        while (others < least && stay > 0) {
            stay--;
            others++;
        }
        return stay < least ? 0 : stay;
    }

    private static void everyDivision() {
        for (int lines = 1; lines <= 40; lines++) {
            for (int set = 0; set < lines; set++) {
                for (int least = 1; least <= 3; least++) {
                    BaselineGrid x = page(set == 0 ? 219 : 240 + 40 * (set - 1));
                    x.set(4, least);
                    x.put(0, true, 200);
                    x.paragraph(0, lines, 40, 40, false);
                    String what = lines + " lines, " + set + " set, least " + least;
                    int stay = staying(lines, set, least);
                    Due.is(what + ": set", x.column(0, 1), set);
                    Due.is(what + ": flow", x.flow(0), 1);
                    Due.is(what + ": stay", x.block(0, 1, 1), stay == 0 ? -1 : stay);
                    Due.is(what + ": blocks", x.column(0, 0), stay == 0 ? 1 : 2);
                    Due.is(what + ": moved", x.block(1, 0, 1), lines - stay);
                    Due.is(what + ": nothing overflows then", x.flow(0), NONE);
                }
            }
        }
    }

    private static BaselineGrid divided(int lines, int set, int least) {
        BaselineGrid x = page(200 * set + 99);
        x.set(4, least);
        x.paragraph(0, lines, 100, 200, false);
        Due.is("set lines of " + lines, x.column(0, 1), set);
        x.flow(0);
        return x;
    }

    /** "but if the others are fewer than the least lines, so many of those that are set are moved, too". */
    private static void theLeastLinesToMove() {
        for (int least = 1; least <= 3; least++) {
            String what = ", least " + least;
            Due.is("as many others" + what, divided(10, 10 - least, least).block(0, 0, 1), 10 - least);
            Due.is("1 more" + what, divided(10, 9 - least, least).block(0, 0, 1), 9 - least);
            if (least > 1) {
                Due.is("1 fewer" + what, divided(10, 11 - least, least).block(0, 0, 1), 10 - least);
                Due.is("1 fewer, moved" + what, divided(10, 11 - least, least).block(1, 0, 1), least);
            }
            Due.is("1 other" + what, divided(10, 9, least).block(1, 0, 1), least);
        }
    }

    /** "and if fewer than the least lines would stay then, the whole paragraph is moved". */
    private static void theLeastLinesToStay() {
        for (int least = 1; least <= 3; least++) {
            String what = ", least " + least;
            Due.is("as many stay" + what, divided(10, least, least).block(0, 0, 1), least);
            Due.is("1 more stays" + what, divided(10, least + 1, least).block(0, 0, 1), least + 1);
            Due.is("as many stay and as many are moved" + what, divided(2 * least, least, least).block(0, 0, 1), least);
            if (least > 1) {
                Due.is("1 fewer" + what, divided(10, least - 1, least).column(0, 0), 0);
                Due.is("1 is given away, then 1 fewer would stay" + what,
                    divided(2 * least - 1, least, least).column(0, 0), 0);
                Due.is("the whole is moved" + what, divided(2 * least - 1, least, least).block(1, 0, 1), 2 * least - 1);
            }
        }
        Due.is("fewer lines than the least ones", divided(2, 1, 3).block(1, 0, 1), 2);
        Due.is("1 stays and 1 is moved, least 1", divided(2, 1, 1).block(0, 0, 1), 1);
    }

    /** "If that first one is a paragraph of which some lines are set, it is divided": one of which none is set is not. */
    private static void noLineIsSet() {
        for (int least = 1; least <= 3; least++) {
            BaselineGrid x = withText(300, "i250;p9*100/100");
            x.set(4, least);
            Due.is("no line is set", x.block(0, 1, 8), 0);
            Due.is("flow(0)", x.flow(0), 1);
            Due.is("the picture alone stays", x.column(0, 0), 1);
            Due.is("all lines are moved", x.block(1, 0, 1), 9);
        }
    }

    private static void thePartsOfAParagraph() {
        BaselineGrid x = page(700);
        x.paragraph(0, 9, 101, 117, true);
        int set = x.block(0, 0, 8);
        Due.is("set lines", set, 5);
        Due.is("flow(0)", x.flow(0), 1);
        for (int column = 0; column < 2; column++) {
            Due.is("kind in " + column, x.block(column, 0, 0), 0);
            Due.is("lines in " + column, x.block(column, 0, 1), column == 0 ? 5 : 4);
            Due.is("size in " + column, x.block(column, 0, 2), 101);
            Due.is("leading in " + column, x.block(column, 0, 3), 117);
            Due.is("snapped in " + column, x.block(column, 0, 4), 1);
            Due.is("set lines in " + column, x.block(column, 0, 8), column == 0 ? 5 : 4);
        }
    }

    /** "NOT_POSSIBLE if it is the column 3". */
    private static void theLastColumn() {
        for (int column = 0; column < 4; column++) {
            BaselineGrid x = page(300);
            x.put(column, true, 301);
            Due.is("flow(" + column + ")", x.flow(column), column == 3 ? NOT_POSSIBLE : 1);
            Due.is("the column then", x.column(column, 0), column == 3 ? 1 : 0);
        }
    }

    /** "FULL if the next column would have more than 16 blocks". */
    private static void roomInTheNextColumn() {
        for (int moved = 1; moved <= 16; moved++) {
            for (int there = 15 - moved; there <= 17 - moved; there++) {
                if (there < 0) {
                    continue;
                }
                BaselineGrid x = page(300);
                for (int block = 0; block < moved; block++) {
                    x.put(0, true, 301 + block);
                }
                for (int block = 0; block < there; block++) {
                    x.put(1, true, 1 + block);
                }
                String what = moved + " to " + there;
                boolean fits = moved + there <= 16;
                Due.is("flow " + what, x.flow(0), fits ? moved : FULL);
                Due.is("the column, " + what, x.column(0, 0), fits ? 0 : moved);
                Due.is("the next one, " + what, x.column(1, 0), fits ? moved + there : there);
                Due.is("the next but one, " + what, x.column(2, 0), 0);
            }
        }
    }

    private static void aDividedParagraphNeedsRoom() {
        for (int there = 15; there <= 16; there++) {
            BaselineGrid x = page(300);
            for (int block = 0; block < 15; block++) {
                x.put(0, false, 1);
            }
            x.paragraph(0, 6, 100, 100, false);
            for (int block = 0; block < there; block++) {
                x.put(1, false, 1);
            }
            Due.is("a part to " + there, x.flow(0), there == 15 ? 1 : FULL);
            Due.is("the column stays full", x.column(0, 0), 16);
            Due.is("lines in it", x.block(0, 15, 1), there == 15 ? 3 : 6);
            Due.is("the next column is full", x.column(1, 0), 16);
        }
    }

    private static void aColumnThatBecomesEmpty() {
        BaselineGrid x = withText(200, "i201;p2*40/40");
        Due.is("flow(0)", x.flow(0), 2);
        Due.is("the end", x.column(0, 2), 0);
        Due.is("blocks", x.column(0, 0), 0);
        Due.is("what overflows there overflows here", x.flow(1), 2);
        Due.is("and here", x.flow(2), 2);
        Due.is("and here it ends", x.flow(3), NOT_POSSIBLE);
        Due.is("the last column", x.column(3, 0), 2);
        Due.is("flow(0) of the empty one", x.flow(0), NONE);
    }

    // ---- spreading

    private static void heights(String what, BaselineGrid x, int... due) {
        for (int block = 0; block < due.length; block++) {
            Due.is(what + ", height of block " + block, x.block(0, block, 5), due[block]);
        }
    }

    /** "what the depth is greater than the end". */
    private static void whatTheDepthIsGreater() {
        for (int depth = 205; depth <= 215; depth++) {
            BaselineGrid x = withText(6000, "i100;s10;i100");
            int more = Math.max(0, depth - 210);
            Due.is("spread to " + depth, x.spread(0, depth), more == 0 ? NONE : depth);
            heights("to " + depth, x, 100, 10 + more, 100);
            Due.is("the end then", x.column(0, 2), Math.max(210, depth));
        }
    }

    /** "its spaces that have a set block that is no space somewhere ahead and somewhere behind them". */
    private static void spacesBetweenSetBlocks() {
        Due.is("an empty column", page(6000).spread(0, 5000), NONE);
        String[] none = {"s5", "s5;s6", "i5", "i5;i5", "s5;i5", "i5;s5", "s5;i5;s5", "s5;s5;p3*40/40;s5;s5", "p1*40/40;i1"};
        for (String text : none) {
            Due.is("no space between in " + text, withText(6000, text).spread(0, 5000), NONE);
        }
        String[] ends = {"i5", "p1*40/40", "p1*40/40!"};
        for (String ahead : ends) {
            for (String behind : ends) {
                BaselineGrid x = withText(6000, "s1;" + ahead + ";s2;s3;" + behind + ";s4");
                int end = x.column(0, 2);
                String what = ahead + " and " + behind;
                Due.is("two spaces between " + what, x.spread(0, end + 240) > end ? 1 : 0, 1);
                Due.is("the space ahead of " + what, x.block(0, 0, 5), 1);
                Due.is("the first space between " + what, x.block(0, 2, 5), 122);
                Due.is("the second space between " + what, x.block(0, 3, 5), 123);
                Due.is("the space behind " + what, x.block(0, 5, 5), 4);
            }
        }
        BaselineGrid far = withText(6000, "i1;s1;s1;s1;i1;i1;s1;i1");
        Due.is("somewhere ahead, somewhere behind", far.spread(0, 408), 408);
        heights("far", far, 1, 101, 101, 101, 1, 1, 101, 1);
    }

    /** "a set block": what overflows is none, and a paragraph of which some lines are set is one. */
    private static void behindMustBeSet() {
        for (int height = 209; height <= 210; height++) {
            BaselineGrid x = withText(height, "i100;s10;i100");
            Due.is("the picture behind on " + height, x.spread(0, 9999), height == 209 ? NONE : 3100);
        }
        BaselineGrid y = withText(300, "i100;s10;p5*100/100;s10;i5");
        Due.is("some lines behind are set", y.block(0, 2, 8), 1);
        Due.is("spread(0, 215)", y.spread(0, 215), 215);
        heights("the first space alone", y, 100, 15, NONE, 10, 5);
        BaselineGrid z = withText(209, "i100;s10;p5*100/100");
        Due.is("no line behind is set", z.spread(0, 215), NONE);
    }

    /** "each becomes higher by as much, rounded down, and what is left by 1 each, the upper ones first". */
    private static void theShareIsRoundedDown() {
        for (int missing = 1; missing <= 16; missing++) {
            BaselineGrid x = withText(6000, "i100;s10;i100;s20;s30;i100;s40;i100");
            Due.is("spread by " + missing, x.spread(0, 500 + missing), 500 + missing);
            int[] due = {10, 20, 30, 40};
            for (int i = 0; i < missing; i++) {
                due[i % 4]++;
            }
            heights("by " + missing, x, 100, due[0], 100, due[1], due[2], 100, due[3], 100);
        }
        BaselineGrid one = withText(6000, "i100;s10;i100");
        Due.is("one space takes all", one.spread(0, 217), 217);
        heights("one", one, 100, 17, 100);
    }

    /** "but none becomes higher than 3000". */
    private static void noneHigherThan3000() {
        for (int height = 2998; height <= 3000; height++) {
            for (int more = 1; more <= 3; more++) {
                BaselineGrid x = withText(9999, "i1;s" + height + ";i1");
                int then = Math.min(3000, height + more);
                Due.is(height + " and " + more, x.spread(0, height + 2 + more), then == height ? NONE : then + 2);
                heights(height + " and " + more, x, 1, then, 1);
                Due.is("recorded", x.count(7), then == height ? 3 : 4);
            }
        }
    }

    /** What a space can't take at 3000 does not become another one's. */
    private static void theRestIsLostAt3000() {
        BaselineGrid x = withText(9999, "i1;s3000;i1;s10;i1");
        Due.is("1 left, for the upper one, which is 3000 high", x.spread(0, 3014), NONE);
        heights("1 left", x, 1, 3000, 1, 10, 1);
        Due.is("2 left, 1 for each", x.spread(0, 3015), 3014);
        heights("2 left", x, 1, 3000, 1, 11, 1);
        BaselineGrid y = withText(9999, "i1;s2990;i1;s10;i1");
        Due.is("100 left, 50 for each", y.spread(0, 3103), 3063);
        heights("100 left", y, 1, 3000, 1, 60, 1);
        BaselineGrid z = withText(9999, "i1;s10;i1;s3000;i1");
        Due.is("1 left, for the upper one", z.spread(0, 3014), 3014);
        heights("1 left, taken", z, 1, 11, 1, 3000, 1);
    }

    /** "(Lines and pictures behind them may be moved by the grid again.)", so that the end is not the depth. */
    private static void linesAndPicturesAreMovedAgain() {
        BaselineGrid x = withText(6000, "i100;s10;p1*40/40!");
        // The space ends at 110, the line stands at 220: up to 192 it stays there.
        Due.is("the end", x.column(0, 2), 232);
        Due.is("spread(0, 314)", x.spread(0, 314), 232);
        heights("by 82", x, 100, 92, NONE);
        Due.is("1 more, the line is moved to 340", x.spread(0, 233), 352);
        heights("by 1", x, 100, 93, NONE);
        BaselineGrid y = withText(400, "i100;s10;i280");
        Due.is("the end", y.column(0, 2), 390);
        Due.is("spread to the height", y.spread(0, 400), 400);
        Due.is("the picture is set", y.block(0, 2, 8), 1);
        Due.is("spread to 1 below it", y.spread(0, 401), 121);
        Due.is("the picture overflows", y.block(0, 2, 8), 0);
    }

    /** "This is an act": one, whatever it changes. */
    private static void oneActEach() {
        BaselineGrid x = withText(300, "i100;s1;i1;s1;i1;s1;i301;i1;i1");
        Due.is("states", x.count(7), 3);
        Due.is("spread(0, 270)", x.spread(0, 270), 270);
        Due.is("states behind a spread", x.count(7), 4);
        Due.is("undo()", x.undo(), 3);
        heights("then", x, 100, 1, 1, 1, 1, 1, 301, 1, 1);
        Due.is("flow(0)", x.flow(0), 3);
        Due.is("states behind a flow", x.count(7), 4);
        Due.is("undo()", x.undo(), 3);
        heights("then", x, 100, 1, 1, 1, 1, 1, 301, 1, 1);
        Due.is("the next column", x.column(1, 0), 0);
    }
}
