import java.util.List;

/** Promises 12, 13, 14: undo, keep, restore. */
public final class HistoryTest {
    public static void main(String[] args) {
        fourStates();
        everyActIsUndone();
        snapshots();
        Due.end();
    }

    private static void fourStates() {
        BaselineGrid x = new BaselineGrid();
        Due.is("undo() of nothing", x.undo(), -5);
        for (int height = 1; height <= 6; height++) {
            x.put(0, true, height);
            Due.is("count(7)", x.count(7), Math.min(height, 4));
        }
        for (int left = 3; left >= 0; left--) {
            Due.is("undo()", x.undo(), left);
            Due.is("count(7)", x.count(7), left);
            Due.is("blocks", x.column(0, 0), 2 + left);
        }
        Due.is("undo() of nothing more", x.undo(), -5);
        Due.is("blocks", x.column(0, 0), 2);
        Due.is("the last block", x.block(0, 1, 5), 2);
        x.put(0, true, 7);
        Due.is("count(7) again", x.count(7), 1);
        Due.is("undo() again", x.undo(), 0);
    }

    private static void everyActIsUndone() {
        for (int act = 0; act < 9; act++) {
            BaselineGrid x = new BaselineGrid();
            Due.types(x, "i100;s10;p9*100/100");
            for (int earlier = 0; earlier < act; earlier++) {
                act(x, earlier);
            }
            List<Integer> expected = Look.at(x);
            int answer = act(x, act);
            Due.is("act " + act + " is done", answer >= 0 ? 1 : answer, 1);
            Due.is("act " + act + " changes something", Look.at(x).equals(expected) ? 1 : 0, 0);
            Due.is("act " + act + " is recorded, undo()", x.undo(), Math.min(act, 3));
            Due.is("act " + act + " is undone", Look.at(x).equals(expected) ? 1 : 0, 1);
        }
    }

    /** Acts in an order in which each one is possible. */
    private static int act(BaselineGrid x, int act) {
        switch (act) {
            case 0: return x.set(0, 500);
            case 1: return x.set(3, 0);
            case 2: return x.putAll(0);
            case 3: return x.spread(0, 420);
            case 4: return x.snap(0, 2, true);
            case 5: return x.flow(0);
            case 6: return x.paragraph(3, 2, 40, 50, true);
            case 7: return x.put(3, false, 60);
            default: return x.remove(1, 0);
        }
    }

    private static void snapshots() {
        BaselineGrid x = new BaselineGrid();
        Due.is("restore() of nothing", x.restore(), -5);
        Due.is("count(7)", x.count(7), 0);
        Due.is("keep() of empty columns", x.keep(), 0);
        x.put(0, true, 10);
        x.put(3, true, 20);
        Due.is("restore() of empty columns", x.restore(), 0);
        Due.is("count(7)", x.count(7), 3);
        Due.is("undo() of the restore", x.undo(), 2);
        Due.is("blocks", x.count(0), 2);
        Due.is("keep() in place of the one that was", x.keep(), 2);
        Due.is("keep() is no act", x.count(7), 2);
        x.set(0, 300);
        x.remove(0, 0);
        x.snap(3, 0, true);
        Due.is("restore()", x.restore(), 2);
        Due.is("the height of the page", x.count(10), 6000);
        Due.is("column 0", x.block(0, 0, 5), 10);
        Due.is("column 3", x.block(3, 0, 5), 20);
        Due.is("the end of column 0", x.column(0, 2), 100);
        Due.is("baselines on the page", x.count(6), 50);
        x.put(0, false, 30);
        x.spread(0, 500);
        Due.is("the end of column 0 then", x.column(0, 2), 130);
        Due.is("the snapshot stays as it is, restore()", x.restore(), 2);
        Due.is("the end of column 0 again", x.column(0, 2), 100);
        Due.is("restore() of what is so already is an act", x.restore(), 2);
        Due.is("count(7)", x.count(7), 4);
        x.undo();
        x.undo();
        Due.is("undo() leaves the snapshot", x.column(0, 0), 2);
        Due.is("restore() after undo", x.restore(), 2);
        Due.is("column 0 after restore", x.column(0, 0), 1);
    }
}
