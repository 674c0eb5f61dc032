import java.util.ArrayList;
import java.util.List;

/** What an object tells of its state, in one row: few enough calls for the 512 that an object is used for. */
final class Look {
    private static final int LINES_A_COLUMN = 4;

    private Look() {
    }

    /** The settings, the columns, their blocks and uppermost lines; neither the text nor the history. */
    static List<Integer> at(BaselineGrid x) {
        List<Integer> told = new ArrayList<>();
        for (int what = 10; what < 15; what++) {
            told.add(x.count(what));
        }
        for (int column = 0; column < 4; column++) {
            for (int what = 0; what < 10; what++) {
                told.add(x.column(column, what));
            }
            int blocks = told.get(told.size() - 10);
            int lines = told.get(told.size() - 9);
            for (int block = 0; block < blocks; block++) {
                for (int what = 0; what < 9; what++) {
                    told.add(x.block(column, block, what));
                }
            }
            for (int line = 0; line < Math.min(lines, LINES_A_COLUMN); line++) {
                told.add(x.line(column, line, 0));
            }
        }
        return told;
    }
}
