import java.util.ArrayList;
import java.util.List;
import java.util.function.Supplier;
import java.util.function.ToIntFunction;

/**
 * "Where several errors can apply, the order of the @return line is the order of the checks."
 * "A call that returns an error or NONE changes nothing": neither the state nor the text, the history, the snapshot.
 */
public final class RefusedTest {
    private static final int UNKNOWN = -1;
    private static final int BAD_VALUE = -2;
    private static final int FULL = -3;
    private static final int NOT_POSSIBLE = -4;
    private static final int NONE = -5;
    private static final int MIN = Integer.MIN_VALUE;
    private static final int MAX = Integer.MAX_VALUE;
    private static final String GOOD = "i5;p2*50/60!;s7";

    /** What a later call brings to light that the answers of the moment do not tell. */
    private static final List<ToIntFunction<BaselineGrid>> LATER = List.of(
        x -> 0, x -> undo(x, 1), x -> undo(x, 2), x -> undo(x, 3), x -> undo(x, 4), x -> undo(x, 5),
        BaselineGrid::restore, x -> x.putAll(3), x -> x.type('0') * 1000 + x.putAll(3), BaselineGrid::keep,
        x -> x.put(3, true, 9));

    private static Supplier<BaselineGrid> scene;

    public static void main(String[] args) {
        onAWholePage();
        onFullColumns();
        withFaultyTexts();
        withAFullText();
        onANewObject();
        withoutAHistory();
        askingChangesNothing();
        Due.end();
    }

    private static int undo(BaselineGrid x, int times) {
        int last = 0;
        for (int i = 0; i < times; i++) {
            last = x.undo();
        }
        return last;
    }

    private static void refused(String call, ToIntFunction<BaselineGrid> refused, int due) {
        Due.is(call, refused.applyAsInt(scene.get()), due);
        unchanged(call, refused);
    }

    /** Compares an object that was called with one that was not, at once and behind each later call. */
    private static void unchanged(String call, ToIntFunction<BaselineGrid> called) {
        for (int later = 0; later < LATER.size(); later++) {
            BaselineGrid x = scene.get();
            BaselineGrid untouched = scene.get();
            called.applyAsInt(x);
            String what = call + " changed nothing, later call " + later;
            Due.is(what, LATER.get(later).applyAsInt(x), LATER.get(later).applyAsInt(untouched));
            List<Integer> got = told(x);
            List<Integer> due = told(untouched);
            Due.is(what + ", " + got + " instead of " + due, got.equals(due) ? 1 : 0, 1);
        }
    }

    private static List<Integer> told(BaselineGrid x) {
        List<Integer> told = new ArrayList<>(Look.at(x));
        told.add(x.count(7));
        told.add(x.count(8));
        return told;
    }

    /** Blocks of every kind in columns of which two overflow, four different states, another snapshot, a text. */
    private static BaselineGrid wholePage(String text) {
        BaselineGrid x = new BaselineGrid();
        x.put(3, true, 501);
        x.put(2, false, 11);
        x.paragraph(2, 2, 40, 50, true);
        x.put(0, true, 100);
        x.put(0, false, 10);
        x.keep();
        x.set(1, 90);
        x.paragraph(0, 9, 100, 100, false);
        x.put(0, true, 10);
        x.set(0, 500);
        x.snap(0, 2, true);
        Due.types(x, text);
        return x;
    }

    private static void onAWholePage() {
        scene = () -> wholePage(GOOD);
        BaselineGrid x = scene.get();
        Due.is("states", x.count(7), 4);
        Due.is("columns of which something overflows", x.count(4), 2);
        refusedSettings();
        refusedBlocks();
        refusedFlows();
        refusedQuestions();
    }

    private static void refusedSettings() {
        refused("set(-1, 0)", x -> x.set(-1, 0), BAD_VALUE);
        refused("set(5, 1)", x -> x.set(5, 1), BAD_VALUE);
        refused("set(MIN, 1)", x -> x.set(MIN, 1), BAD_VALUE);
        refused("set(MAX, 1)", x -> x.set(MAX, 1), BAD_VALUE);
        int[][] beyond = {{199, 10000}, {-1, 501}, {19, 501}, {-1, 2}, {0, 4}};
        int[] so = {500, 90, 120, 1, 2};
        for (int what = 0; what < 5; what++) {
            int setting = what;
            for (int value : new int[] {beyond[what][0], beyond[what][1], MIN, MAX}) {
                refused("set(" + what + ", " + value + ")", x -> x.set(setting, value), BAD_VALUE);
            }
            refused("set(" + what + ", as it is)", x -> x.set(setting, so[setting]), NONE);
        }
    }

    private static void refusedBlocks() {
        for (int c : new int[] {-1, 4, MIN, MAX}) {
            refused("paragraph in " + c, x -> x.paragraph(c, 1, 40, 40, true), UNKNOWN);
            refused("bad paragraph in " + c, x -> x.paragraph(c, 0, 0, 0, true), UNKNOWN);
            refused("put in " + c, x -> x.put(c, true, 1), UNKNOWN);
            refused("bad put in " + c, x -> x.put(c, false, 0), UNKNOWN);
            refused("putAll in " + c, x -> x.putAll(c), UNKNOWN);
            refused("remove in " + c, x -> x.remove(c, 0), UNKNOWN);
            refused("snap in " + c, x -> x.snap(c, 0, true), UNKNOWN);
        }
        refused("lines 0", x -> x.paragraph(1, 0, 40, 40, true), BAD_VALUE);
        refused("lines 41", x -> x.paragraph(1, 41, 40, 40, true), BAD_VALUE);
        refused("size 39", x -> x.paragraph(1, 1, 39, 40, true), BAD_VALUE);
        refused("size 401", x -> x.paragraph(1, 1, 401, 500, true), BAD_VALUE);
        refused("leading below the size", x -> x.paragraph(1, 1, 50, 49, false), BAD_VALUE);
        refused("leading 601", x -> x.paragraph(1, 1, 50, 601, false), BAD_VALUE);
        refused("all MIN", x -> x.paragraph(1, MIN, MIN, MIN, false), BAD_VALUE);
        refused("all MAX", x -> x.paragraph(1, MAX, MAX, MAX, false), BAD_VALUE);
        for (int height : new int[] {0, 3001, -1, MIN, MAX}) {
            refused("a picture of " + height, x -> x.put(1, true, height), BAD_VALUE);
            refused("a space of " + height, x -> x.put(1, false, height), BAD_VALUE);
        }
        for (int b : new int[] {-1, 4, MIN, MAX}) {
            refused("remove(0, " + b + ")", x -> x.remove(0, b), UNKNOWN);
            refused("snap(0, " + b + ", true)", x -> x.snap(0, b, true), UNKNOWN);
        }
        refused("remove of an empty column", x -> x.remove(1, 0), UNKNOWN);
        refused("snap of an empty column", x -> x.snap(1, 0, false), UNKNOWN);
        // A picture and a space are not snapped already, too.
        refused("snap of a picture", x -> x.snap(0, 0, true), NOT_POSSIBLE);
        refused("unsnap of a picture", x -> x.snap(0, 0, false), NOT_POSSIBLE);
        refused("snap of a space", x -> x.snap(0, 1, true), NOT_POSSIBLE);
        refused("unsnap of a space", x -> x.snap(0, 1, false), NOT_POSSIBLE);
        refused("snap of what is snapped", x -> x.snap(0, 2, true), NONE);
    }

    private static void refusedFlows() {
        for (int c : new int[] {-1, 4, MIN, MAX}) {
            refused("flow(" + c + ")", x -> x.flow(c), UNKNOWN);
            refused("spread(" + c + ", 5000)", x -> x.spread(c, 5000), UNKNOWN);
            refused("spread(" + c + ", 0)", x -> x.spread(c, 0), UNKNOWN);
        }
        refused("flow(3), of which something overflows", x -> x.flow(3), NOT_POSSIBLE);
        refused("flow(1), empty", x -> x.flow(1), NONE);
        refused("flow(2), nothing overflows", x -> x.flow(2), NONE);
        for (int depth : new int[] {0, 10000, -1, MIN, MAX}) {
            refused("spread(0, " + depth + ")", x -> x.spread(0, depth), BAD_VALUE);
            // Nothing can be spread there, too.
            refused("spread(1, " + depth + ")", x -> x.spread(1, depth), BAD_VALUE);
        }
        refused("spread(0, 1)", x -> x.spread(0, 1), NONE);
        refused("spread to the end", x -> x.spread(0, x.column(0, 2)), NONE);
        refused("spread of an empty column", x -> x.spread(1, 9999), NONE);
        refused("spread with a space at the top alone", x -> x.spread(2, 9999), NONE);
        refused("spread with nothing set", x -> x.spread(3, 9999), NONE);
        Due.is("spread to 1 below the end is possible", scene.get().spread(0, scene.get().column(0, 2) + 1) > 0 ? 1 : 0, 1);
    }

    private static void refusedQuestions() {
        for (int c : new int[] {-1, 4, MIN, MAX}) {
            refused("block(" + c + ", 0, 0)", x -> x.block(c, 0, 0), UNKNOWN);
            refused("block(" + c + ", 0, 9)", x -> x.block(c, 0, 9), UNKNOWN);
            refused("line(" + c + ", 0, 0)", x -> x.line(c, 0, 0), UNKNOWN);
            refused("line(" + c + ", -1, 5)", x -> x.line(c, -1, 5), UNKNOWN);
            refused("column(" + c + ", 0)", x -> x.column(c, 0), UNKNOWN);
            refused("column(" + c + ", 10)", x -> x.column(c, 10), UNKNOWN);
            refused("block(0, " + c + ", 9)", x -> x.block(0, c, 9), UNKNOWN);
        }
        for (int what : new int[] {-1, 15, MIN, MAX}) {
            refused("block(0, 2, " + what + ")", x -> x.block(0, 2, what), BAD_VALUE);
            refused("line(0, 0, " + what + ")", x -> x.line(0, 0, what), BAD_VALUE);
            refused("line(0, 999, " + what + ")", x -> x.line(0, 999, what), BAD_VALUE);
            refused("column(0, " + what + ")", x -> x.column(0, what), BAD_VALUE);
            refused("shared(0, " + what + ")", x -> x.shared(0, what), BAD_VALUE);
            refused("shared(999, " + what + ")", x -> x.shared(999, what), BAD_VALUE);
            refused("ifStep(120, " + what + ")", x -> x.ifStep(120, what), BAD_VALUE);
            refused("count(" + what + ")", x -> x.count(what), BAD_VALUE);
        }
        // A field that the block does not have is NONE, but only if what is in its range.
        refused("block(0, 0, 1), of a picture", x -> x.block(0, 0, 1), NONE);
        refused("block(0, 2, 5), of a paragraph", x -> x.block(0, 2, 5), NONE);
        refused("block(0, 3, 6), not set", x -> x.block(0, 3, 6), NONE);
        refused("block(0, 3, 9), not set", x -> x.block(0, 3, 9), BAD_VALUE);
        refused("line(1, 0, 0), empty", x -> x.line(1, 0, 0), NONE);
        refused("line(1, -1, 0), empty", x -> x.line(1, -1, 0), BAD_VALUE);
        refused("line(0, MIN, 0)", x -> x.line(0, MIN, 0), BAD_VALUE);
        refused("line(0, MAX, 0)", x -> x.line(0, MAX, 0), NONE);
        refused("shared(-1, 0)", x -> x.shared(-1, 0), BAD_VALUE);
        refused("shared(MAX, 1)", x -> x.shared(MAX, 1), NONE);
        refused("ifStep(19, 0)", x -> x.ifStep(19, 0), BAD_VALUE);
        refused("ifStep(501, 0)", x -> x.ifStep(501, 0), BAD_VALUE);
        refused("bestStep(19, 20)", x -> x.bestStep(19, 20), BAD_VALUE);
        refused("bestStep(500, 501)", x -> x.bestStep(500, 501), BAD_VALUE);
        refused("bestStep(100, 99)", x -> x.bestStep(100, 99), BAD_VALUE);
        refused("count(9)", x -> x.count(9), BAD_VALUE);
    }

    /** Columns 0 and 1 have 16 blocks, of both something overflows. */
    private static BaselineGrid fullColumns(String text) {
        BaselineGrid x = new BaselineGrid();
        Due.types(x, "s1;s1;s1;s1;s1;s1;s1;s1;s1;s1;s1;s1;s1;s1;s1");
        x.putAll(0);
        x.putAll(1);
        x.keep();
        x.put(0, true, 3000);
        x.put(1, true, 3000);
        x.set(0, 2000);
        Due.types(x, text);
        return x;
    }

    private static void onFullColumns() {
        scene = () -> fullColumns("i1");
        Due.is("columns of which something overflows", scene.get().count(4), 2);
        refused("put", x -> x.put(1, true, 1), FULL);
        refused("put of a space", x -> x.put(1, false, 3000), FULL);
        refused("a bad height ahead of FULL", x -> x.put(1, true, 0), BAD_VALUE);
        refused("UNKNOWN ahead of FULL", x -> x.put(4, true, 1), UNKNOWN);
        refused("paragraph", x -> x.paragraph(0, 1, 40, 40, true), FULL);
        refused("bad lines ahead of FULL", x -> x.paragraph(0, 41, 40, 40, true), BAD_VALUE);
        refused("a bad size ahead of FULL", x -> x.paragraph(0, 1, 39, 40, true), BAD_VALUE);
        refused("a bad leading ahead of FULL", x -> x.paragraph(0, 1, 40, 601, true), BAD_VALUE);
        refused("UNKNOWN ahead of FULL", x -> x.paragraph(-1, 1, 40, 40, true), UNKNOWN);
        refused("putAll", x -> x.putAll(0), FULL);
        refused("putAll in 4", x -> x.putAll(4), UNKNOWN);
        refused("flow into a full column", x -> x.flow(0), FULL);
        Due.is("flow into one that has room", scene.get().flow(1), 1);
        // Nothing of the column overflows: so the next one would not have more blocks, however full it is.
        scene = () -> {
            BaselineGrid x = fullColumns("i1");
            x.remove(0, 15);
            return x;
        };
        refused("nothing flows into a full column", x -> x.flow(0), NONE);
    }

    private static void withFaultyTexts() {
        String[] faulty = {"", "x", "i5;", "p1*39/39;", "p1*50/49!x", "i3001", "p2*50/60;;s1"};
        int[] faults = {0, 0, 3, 9, 9, 4, 9};
        for (int i = 0; i < faulty.length; i++) {
            String text = faulty[i];
            scene = () -> wholePage(text);
            refused("putAll of '" + text + "'", x -> x.putAll(1), -100 - faults[i]);
            refused("putAll of '" + text + "' in 4", x -> x.putAll(4), UNKNOWN);
            scene = () -> fullColumns(text);
            refused("putAll of '" + text + "' in a full column", x -> x.putAll(1), -100 - faults[i]);
        }
        for (String text : new String[] {"p1*39/39", "p1*50/49", "i1;s1;p9*400/399!;i1"}) {
            scene = () -> wholePage(text);
            refused("putAll of '" + text + "'", x -> x.putAll(1), BAD_VALUE);
            refused("putAll of '" + text + "' in 4", x -> x.putAll(4), UNKNOWN);
            scene = () -> fullColumns(text);
            refused("putAll of '" + text + "' in a full column", x -> x.putAll(1), BAD_VALUE);
        }
        String seventeen = "s1;s1;s1;s1;s1;s1;s1;s1;s1;s1;s1;s1;s1;s1;s1;s1;s1";
        scene = () -> wholePage(seventeen);
        refused("putAll of 17", x -> x.putAll(1), FULL);
        refused("putAll of 17 in 4", x -> x.putAll(4), UNKNOWN);
        scene = () -> wholePage(seventeen + ";");
        refused("a fault ahead of FULL", x -> x.putAll(1), -151);
        scene = () -> wholePage(seventeen.substring(3) + ";p1*39/40");
        refused("a size of 39 ahead of FULL", x -> x.putAll(1), BAD_VALUE);
    }

    private static void withAFullText() {
        String full = "s1000;s1000;s1000;s1000;s1000;s1000;s1000;s1000;s1000;s30000";
        scene = () -> wholePage(full);
        for (char c : new char[] {';', 'p', '0', 0, 255, 65535}) {
            refused("type " + (int) c, x -> x.type(c), FULL);
        }
        refused("putAll", x -> x.putAll(1), -159);
    }

    private static void onANewObject() {
        scene = BaselineGrid::new;
        refused("undo", BaselineGrid::undo, NONE);
        refused("restore", BaselineGrid::restore, NONE);
        refused("putAll", x -> x.putAll(0), -100);
        refused("clearText of the empty text", BaselineGrid::clearText, 0);
        refused("remove", x -> x.remove(0, 0), UNKNOWN);
        refused("snap", x -> x.snap(0, 0, true), UNKNOWN);
        refused("flow", x -> x.flow(0), NONE);
        refused("flow(3)", x -> x.flow(3), NOT_POSSIBLE);
        refused("spread", x -> x.spread(0, 9999), NONE);
        refused("set", x -> x.set(0, 6000), NONE);
        refused("shared", x -> x.shared(0, 0), NONE);
    }

    private static void withoutAHistory() {
        scene = () -> {
            BaselineGrid x = wholePage(GOOD);
            undo(x, 4);
            return x;
        };
        refused("undo, with a snapshot", BaselineGrid::undo, NONE);
        scene = () -> {
            BaselineGrid x = new BaselineGrid();
            for (int height = 1; height <= 6; height++) {
                x.put(0, true, height);
            }
            return x;
        };
        refused("restore, with a full history", BaselineGrid::restore, NONE);
    }

    /** What is only told changes nothing either. */
    private static void askingChangesNothing() {
        scene = () -> wholePage(GOOD);
        for (int step : new int[] {20, 37, 119, 120, 500}) {
            for (int what = 0; what < 3; what++) {
                int told = what;
                unchanged("ifStep(" + step + ", " + what + ")", x -> x.ifStep(step, told));
            }
        }
        unchanged("bestStep(20, 500)", x -> x.bestStep(20, 500));
        unchanged("bestStep(20, 20)", x -> x.bestStep(20, 20));
        unchanged("shared(0, 0)", x -> x.shared(0, 0));
        for (int what = 0; what < 9; what++) {
            int told = what;
            unchanged("block(0, 2, " + what + ")", x -> x.block(0, 2, told));
            unchanged("line(0, 1, " + what + ")", x -> x.line(0, 1, told));
            unchanged("column(0, " + what + ")", x -> x.column(0, told));
            unchanged("count(" + what + ")", x -> x.count(told));
        }
    }
}
