/** Promises 5, 10, 11: putAll, type, clearText. */
public final class TextTest {
    public static void main(String[] args) {
        typing();
        goodTexts();
        faults();
        order();
        manyBlocks();
        theTextIsNoState();
        Due.end();
    }

    private static void typing() {
        BaselineGrid x = new BaselineGrid();
        char[] any = {0, ' ', 'p', 255, 256, 65535};
        for (int i = 0; i < 60; i++) {
            Due.is("type " + i, x.type(any[i % 6]), i + 1);
            Due.is("count(8)", x.count(8), i + 1);
        }
        Due.is("type into a full text", x.type('p'), -3);
        Due.is("count(8)", x.count(8), 60);
        Due.is("clearText()", x.clearText(), 60);
        Due.is("count(8)", x.count(8), 0);
        Due.is("clearText() again", x.clearText(), 0);
        Due.is("type again", x.type('s'), 1);
        Due.is("count(7)", x.count(7), 0);
    }

    private static void goodTexts() {
        BaselineGrid x = new BaselineGrid();
        Due.types(x, "p40*400/600!;i3000;s3000;p1*40/40;i1");
        Due.is("putAll(0)", x.putAll(0), 5);
        Due.is("count(8)", x.count(8), 36);
        int[][] due = {{0, 40, 400, 600, 1, -5}, {1, -5, -5, -5, -5, 3000}, {2, -5, -5, -5, -5, 3000},
            {0, 1, 40, 40, 0, -5}, {1, -5, -5, -5, -5, 1}};
        for (int block = 0; block < 5; block++) {
            for (int what = 0; what < 6; what++) {
                Due.is("block(0, " + block + ", " + what + ")", x.block(0, block, what), due[block][what]);
            }
        }
        Due.is("one act", x.count(7), 1);
        Due.is("putAll(0) again", x.putAll(0), 10);
        Due.is("the tenth block", x.block(0, 9, 5), 1);
        Due.is("putAll(3)", x.putAll(3), 5);
        Due.is("undo()", x.undo(), 2);
        Due.is("column 3", x.column(3, 0), 0);
        Due.is("undo() again", x.undo(), 1);
        Due.is("column 0", x.column(0, 0), 5);
    }

    private static void faults() {
        fault("", 0);
        fault("x", 0);
        fault("P", 0);
        fault(";", 0);
        fault("1", 0);
        fault(" i1", 0);
        fault("p", 1);
        fault("p*", 1);
        fault("p0", 1);
        fault("p01*40/40", 1);
        fault("p1", 2);
        fault("p40", 3);
        fault("p41", 2);
        fault("p400", 3);
        fault("p1/", 2);
        fault("p1!", 2);
        fault("p1;", 2);
        fault("p1*", 3);
        fault("p1*0", 3);
        fault("p1*/", 3);
        fault("p1*400", 6);
        fault("p1*401", 5);
        fault("p1*41*", 5);
        fault("p1*41;", 5);
        fault("p1*40/", 6);
        fault("p1*40/0", 6);
        fault("p1*40/!", 6);
        fault("p1*40/601", 8);
        fault("p1*40/6000", 9);
        fault("p1*40/60/", 8);
        fault("p1*40/60!!", 9);
        fault("p1*40/60!1", 9);
        fault("p1*40/60;", 9);
        fault("p1*40/60!;", 10);
        fault("p1*40/60!;!", 10);
        fault("i", 1);
        fault("i0", 1);
        fault("i!", 1);
        fault("i3001", 4);
        fault("i30000", 5);
        fault("i4000", 4);
        fault("i1!", 2);
        fault("i1*", 2);
        fault("s", 1);
        fault("s;", 1);
        fault("s3001", 4);
        fault("s10;;", 4);
        fault("s10;", 4);
        fault("s10;s1;", 7);
        fault("s10;q", 4);
        fault("i1" + (char) 305, 2);
        fault("i" + (char) 0x661, 1);
        Due.is("the longest fault", Due.putAllOf("s1;s1;s1;s1;s1;s1;s1;s1;s1;s1;s1;s1;s1;s1;s1;s1;s1;s1;s1;s1;"), -160);
        Due.is("a text of 60 characters", Due.putAllOf("s1000;s1000;s1000;s1000;s1000;s1000;s1000;s1000;s1000;s10000"), -159);
        Due.is("a good text of 60 characters", Due.putAllOf("s1000;s1000;s1000;s1000;s1000;s1000;s1000;s1000;s1000;s1;s30"), 11);
    }

    private static void fault(String text, int fault) {
        Due.is("putAll of '" + text + "'", Due.putAllOf(text), -100 - fault);
    }

    private static void order() {
        BaselineGrid x = new BaselineGrid();
        Due.is("an unknown column, the empty text", x.putAll(4), -1);
        Due.is("column -1", x.putAll(-1), -1);
        Due.is("column MIN", x.putAll(Integer.MIN_VALUE), -1);
        Due.is("a size of 39", Due.putAllOf("p1*39/40"), -2);
        Due.is("a size of 1", Due.putAllOf("i1;p1*1/1;i1"), -2);
        Due.is("a leading below the size", Due.putAllOf("p1*100/99!"), -2);
        Due.is("a leading as great as the size", Due.putAllOf("p1*100/100!"), 1);
        Due.is("a fault ahead of a size of 39", Due.putAllOf("p1*39/40;"), -109);
        for (int block = 0; block < 15; block++) {
            x.put(0, true, 1);
        }
        Due.types(x, "i1;p1*39/39");
        Due.is("a size of 39 ahead of FULL", x.putAll(0), -2);
        Due.types(x, "i1;i2");
        Due.is("17 blocks", x.putAll(0), -3);
        Due.is("none of them", x.column(0, 0), 15);
        Due.types(x, "i2");
        Due.is("16 blocks", x.putAll(0), 16);
        Due.is("the 16th", x.block(0, 15, 5), 2);
        Due.types(x, "i2;");
        Due.is("a fault ahead of FULL", x.putAll(0), -103);
        Due.is("the size that was bad is forgotten", x.putAll(4), -1);
        Due.is("count(7)", x.count(7), 4);
    }

    private static void manyBlocks() {
        Due.is("16 blocks", Due.putAllOf("s1;s1;s1;s1;s1;s1;s1;s1;s1;s1;s1;s1;s1;s1;s1;s1"), 16);
        Due.is("17 blocks", Due.putAllOf("s1;s1;s1;s1;s1;s1;s1;s1;s1;s1;s1;s1;s1;s1;s1;s1;s1"), -3);
        Due.is("20 blocks", Due.putAllOf("s1;s1;s1;s1;s1;s1;s1;s1;s1;s1;s1;s1;s1;s1;s1;s1;s1;s1;s1;s1"), -3);
        Due.is("20 blocks, a fault", Due.putAllOf("s1;s1;s1;s1;s1;s1;s1;s1;s1;s1;s1;s1;s1;s1;s1;s1;s1;s1;s1;s1x"), -159);
    }

    private static void theTextIsNoState() {
        BaselineGrid x = new BaselineGrid();
        x.put(0, true, 1);
        x.keep();
        Due.types(x, "i5");
        x.undo();
        x.restore();
        Due.is("count(8)", x.count(8), 2);
        Due.is("putAll(0)", x.putAll(0), 2);
        Due.is("block(0, 1, 5)", x.block(0, 1, 5), 5);
    }
}
