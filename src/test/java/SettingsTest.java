/** Promises 1 and 2: a new object, set; and that a call that returns an error or NONE changes nothing. */
public final class SettingsTest {
    public static void main(String[] args) {
        aNewObject();
        everySetting();
        wrongSettings();
        settingsChangeWhatIsSet();
        acts();
        Due.end();
    }

    private static void aNewObject() {
        BaselineGrid x = new BaselineGrid();
        Due.is("UNKNOWN", BaselineGrid.UNKNOWN, -1);
        Due.is("BAD_VALUE", BaselineGrid.BAD_VALUE, -2);
        Due.is("FULL", BaselineGrid.FULL, -3);
        Due.is("NOT_POSSIBLE", BaselineGrid.NOT_POSSIBLE, -4);
        Due.is("NONE", BaselineGrid.NONE, -5);
        for (int column = 0; column < 4; column++) {
            for (int what = 0; what <= 8; what++) {
                Due.is("column(" + column + ", " + what + ")", x.column(column, what), 0);
            }
            Due.is("column(" + column + ", 9)", x.column(column, 9), 6000);
            Due.is("block(" + column + ", 0, 0)", x.block(column, 0, 0), -1);
            Due.is("line(" + column + ", 0, 0)", x.line(column, 0, 0), -5);
        }
        for (int what = 0; what <= 8; what++) {
            Due.is("count(" + what + ")", x.count(what), what == 6 ? 50 : 0);
        }
        Due.is("undo()", x.undo(), -5);
        Due.is("restore()", x.restore(), -5);
        Due.is("clearText()", x.clearText(), 0);
        Due.is("putAll(0)", x.putAll(0), -100);
        Due.is("shared(0, 0)", x.shared(0, 0), -5);
        Due.is("ifStep(20, 0)", x.ifStep(20, 0), 0);
        Due.is("bestStep(20, 500)", x.bestStep(20, 500), 500);
        int[] first = {6000, 100, 120, 1, 2};
        for (int what = 0; what < 5; what++) {
            Due.is("count(10 + " + what + ")", x.count(10 + what), first[what]);
        }
    }

    private static void everySetting() {
        int[] least = {200, 0, 20, 0, 1};
        int[] greatest = {9999, 500, 500, 1, 3};
        int[] first = {6000, 100, 120, 1, 2};
        for (int what = 0; what < 5; what++) {
            BaselineGrid x = new BaselineGrid();
            String call = "set(" + what + ", ..)";
            Due.is(call + " as it is", x.set(what, first[what]), -5);
            Due.is(call + " below", x.set(what, least[what] - 1), -2);
            Due.is(call + " above", x.set(what, greatest[what] + 1), -2);
            Due.is("count(7) without an act", x.count(7), 0);
            Due.is(call + " least", x.set(what, least[what]), first[what]);
            Due.is(call + " is the least", x.count(10 + what), least[what]);
            Due.is(call + " greatest", x.set(what, greatest[what]), least[what]);
            Due.is(call + " is the greatest", x.count(10 + what), greatest[what]);
            Due.is(call + " greatest again", x.set(what, greatest[what]), -5);
            Due.is("count(7) after two acts", x.count(7), 2);
            for (int other = 0; other < 5; other++) {
                if (other != what) {
                    Due.is("another setting", x.count(10 + other), first[other]);
                }
            }
        }
    }

    private static void wrongSettings() {
        BaselineGrid x = new BaselineGrid();
        Due.is("set(-1, 0)", x.set(-1, 0), -2);
        Due.is("set(5, 1)", x.set(5, 1), -2);
        Due.is("set(MAX, 0)", x.set(Integer.MAX_VALUE, 0), -2);
        Due.is("set(MIN, 0)", x.set(Integer.MIN_VALUE, 0), -2);
        Due.is("set(0, MAX)", x.set(0, Integer.MAX_VALUE), -2);
        Due.is("set(1, MIN)", x.set(1, Integer.MIN_VALUE), -2);
        Due.is("set(2, 0)", x.set(2, 0), -2);
        Due.is("count(7)", x.count(7), 0);
    }

    private static void settingsChangeWhatIsSet() {
        BaselineGrid x = new BaselineGrid();
        x.paragraph(0, 3, 100, 100, true);
        x.put(0, true, 100);
        Due.is("end", x.column(0, 2), 580);
        x.set(1, 130);
        Due.is("first line with first baseline 130", x.line(0, 0, 0), 130);
        Due.is("end with first baseline 130", x.column(0, 2), 610);
        x.set(2, 50);
        Due.is("second line with step 50", x.line(0, 1, 0), 230);
        Due.is("end with step 50", x.column(0, 2), 480);
        x.set(3, 0);
        Due.is("end without rounding", x.column(0, 2), 460);
        x.set(0, 459);
        Due.is("end with a page of 459", x.column(0, 2), 360);
        x.set(0, 460);
        Due.is("end with a page of 460", x.column(0, 2), 460);
    }

    /** A call that is no act, or returns an error or NONE, records nothing. */
    private static void acts() {
        BaselineGrid x = new BaselineGrid();
        x.type('i');
        x.type('1');
        x.keep();
        x.clearText();
        x.undo();
        x.column(0, 0);
        x.ifStep(20, 0);
        x.bestStep(20, 500);
        x.paragraph(0, 0, 100, 100, true);
        x.put(4, true, 1);
        x.putAll(0);
        x.remove(0, 0);
        x.snap(0, 0, true);
        x.flow(0);
        x.flow(3);
        x.spread(0, 100);
        Due.is("count(7) without an act", x.count(7), 0);
        x.set(4, 1);
        Due.is("count(7) after an act", x.count(7), 1);
    }
}
