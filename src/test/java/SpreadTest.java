/** Promise 9: spread. */
public final class SpreadTest {
    public static void main(String[] args) {
        sharing();
        whichSpaces();
        greatestHeight();
        gridMovesAgain();
        overflowing();
        errors();
        Due.end();
    }

    private static void heights(BaselineGrid x, int... due) {
        for (int block = 0; block < due.length; block++) {
            Due.is("height of block " + block, x.block(0, block, 5), due[block]);
        }
    }

    private static void sharing() {
        BaselineGrid x = new BaselineGrid();
        x.set(3, 0);
        Due.types(x, "i100;s10;i100;s20;s30;i100");
        x.putAll(0);
        Due.is("end", x.column(0, 2), 360);
        Due.is("spread(0, 360)", x.spread(0, 360), -5);
        Due.is("spread(0, 359)", x.spread(0, 359), -5);
        Due.is("spread(0, 361)", x.spread(0, 361), 361);
        heights(x, 100, 11, 100, 20, 30, 100);
        Due.is("spread(0, 363)", x.spread(0, 363), 363);
        heights(x, 100, 12, 100, 21, 30, 100);
        Due.is("spread(0, 370)", x.spread(0, 370), 370);
        heights(x, 100, 15, 100, 23, 32, 100);
        Due.is("spread(0, 382)", x.spread(0, 382), 382);
        heights(x, 100, 19, 100, 27, 36, 100);
        Due.is("undo()", x.undo(), 3);
        heights(x, 100, 15, 100, 23, 32, 100);
        Due.is("end after undo", x.column(0, 2), 370);
    }

    private static void whichSpaces() {
        BaselineGrid x = new BaselineGrid();
        x.set(3, 0);
        Due.types(x, "s5;s6;i100;s7;s8");
        x.putAll(0);
        Due.is("no space between", x.spread(0, 1000), -5);
        Due.types(x, "p2*100/100;s9");
        x.putAll(0);
        Due.is("end", x.column(0, 2), 324);
        Due.is("two spaces between", x.spread(0, 1025), 1025);
        heights(x, 5, 6, 100, 358, 358, -5, 9);
        x = new BaselineGrid();
        x.set(0, 500);
        x.set(3, 0);
        Due.types(x, "i100;s10;i300;s20;i200;s30;i10");
        x.putAll(0);
        Due.is("end, ahead of what overflows", x.column(0, 2), 430);
        Due.is("spaces ahead of what overflows only", x.spread(0, 450), 450);
        heights(x, 100, 30, 300, 20, 200, 30, 10);
        x = new BaselineGrid();
        x.set(0, 500);
        x.set(3, 0);
        Due.types(x, "i100;s10;p9*100/100");
        x.putAll(0);
        Due.is("a paragraph of which some lines are set", x.spread(0, 420), 420);
        heights(x, 100, 20, -5);
        x = new BaselineGrid();
        x.put(0, false, 10);
        Due.is("a space alone", x.spread(0, 420), -5);
        Due.is("an empty column", x.spread(1, 420), -5);
        Due.is("count(7)", x.count(7), 1);
    }

    private static void greatestHeight() {
        BaselineGrid x = new BaselineGrid();
        x.set(0, 9999);
        x.set(3, 0);
        Due.types(x, "i100;s2999;i100;s3000;i100");
        x.putAll(0);
        Due.is("spread(0, 6300)", x.spread(0, 6300), 6300);
        heights(x, 100, 3000, 100, 3000, 100);
        Due.is("spread(0, 9999)", x.spread(0, 9999), -5);
        Due.is("count(7)", x.count(7), 4);
        x.remove(0, 1);
        Due.types(x, "s10;i10");
        x.putAll(0);
        Due.is("the greatest depth", x.spread(0, 9999), 6310);
        heights(x, 100, 100, 3000, 100, 3000, 10);
    }

    private static void gridMovesAgain() {
        BaselineGrid x = new BaselineGrid();
        Due.types(x, "i100;s10;p1*100/100!;s10;i50");
        x.putAll(0);
        // 100, 110, baseline 220, 250, 260, 310 rounded to 340.
        Due.is("end", x.column(0, 2), 340);
        Due.is("spread(0, 400)", x.spread(0, 400), 340);
        heights(x, 100, 40, -5, 40, 50);
        Due.is("the line stays where it is", x.line(0, 0, 0), 220);
        Due.is("spread(0, 400) again", x.spread(0, 400), 580);
        Due.is("then the end is too deep", x.spread(0, 460), -5);
    }

    private static void overflowing() {
        BaselineGrid x = new BaselineGrid();
        x.set(0, 500);
        x.set(3, 0);
        Due.types(x, "i100;s10;i100");
        x.putAll(0);
        Due.is("spread(0, 501)", x.spread(0, 501), 401);
        Due.is("the picture overflows", x.block(0, 2, 8), 0);
        Due.is("no set block behind the space", x.spread(0, 9999), -5);
    }

    private static void errors() {
        BaselineGrid x = new BaselineGrid();
        Due.is("spread(4, 0)", x.spread(4, 0), -1);
        Due.is("spread(-1, 1)", x.spread(-1, 1), -1);
        Due.is("spread(0, 0)", x.spread(0, 0), -2);
        Due.is("spread(0, -1)", x.spread(0, -1), -2);
        Due.is("spread(0, 10000)", x.spread(0, 10000), -2);
        Due.is("spread(0, MIN)", x.spread(0, Integer.MIN_VALUE), -2);
        Due.is("spread(0, 1)", x.spread(0, 1), -5);
        Due.is("spread(0, 9999)", x.spread(0, 9999), -5);
        Due.is("count(7)", x.count(7), 0);
    }
}
