/** All promises: long runs of calls, always the same ones, whose answers are compared with those of the model. */
public final class ModelTest {
    private static final int RUNS = 600;
    private static final int CALLS = 512;
    private static final String[] PIECES = {"p", "i", "s", ";", "*", "/", "!", "0", "1", "2", "3", "4", "5", "9",
        "p3*", "100/", "120", "p12*90/110!", "i300", "s40", "p40*400/600!", "i3000;", "s3000;", "p2*39/40", "p1*40/40;"};
    private static long seed;

    private final BaselineGrid grid = new BaselineGrid();
    private final Model model = new Model();
    private final int style;
    private int left = CALLS;

    private ModelTest(int style) {
        this.style = style;
    }

    public static void main(String[] args) {
        for (int run = 0; run < RUNS; run++) {
            seed = run * 7919L + 1;
            new ModelTest(run % 6).run();
        }
        Due.end();
    }

    private static int below(int bound) {
        seed = seed * 6364136223846793005L + 1442695040888963407L;
        return (int) ((seed >>> 33) % bound);
    }

    private static boolean either() {
        return below(2) == 1;
    }

    private static int oneOf(int... values) {
        return values[below(values.length)];
    }

    /** Mostly in the range, sometimes at its edges, rarely outside. */
    private static int near(int least, int greatest) {
        int kind = below(40);
        if (kind == 0) {
            return oneOf(least - 1, greatest + 1, Integer.MIN_VALUE, Integer.MAX_VALUE, 0, -1);
        }
        if (kind < 4) {
            return oneOf(least, greatest);
        }
        return least + below(greatest - least + 1);
    }

    private void due(String call, int got, int due) {
        left--;
        Due.is("style " + style + ", " + (CALLS - left) + ": " + call, got, due);
    }

    private void run() {
        if (style % 2 == 1) {
            int height = oneOf(200, 400, 700, 1500);
            due("set(0, ..)", grid.set(0, height), model.set(0, height));
        }
        if (style >= 4) {
            int step = oneOf(20, 37, 100, 500);
            due("set(2, ..)", grid.set(2, step), model.set(2, step));
        }
        while (left > 30) {
            if (below(5) < 3) {
                ask();
            } else {
                change();
            }
        }
        while (left > 0) {
            ask();
        }
    }

    private void change() {
        int column = near(0, 3);
        int block = near(0, 6);
        boolean flag = either();
        switch (below(16)) {
            case 0:
                changeSetting();
                break;
            case 1:
            case 2:
                putParagraph(column, flag);
                break;
            case 3:
            case 4:
                int height = either() ? near(1, 3000) : near(1, 200);
                due("put", grid.put(column, flag, height), model.put(column, flag, height));
                break;
            case 5:
            case 6:
                typeAndPut(column);
                break;
            case 7:
                due("remove", grid.remove(column, block), model.remove(column, block));
                break;
            case 8:
                due("snap", grid.snap(column, block, flag), model.snap(column, block, flag));
                break;
            case 9:
            case 10:
                due("flow", grid.flow(column), model.flow(column));
                break;
            case 11:
            case 12:
                int depth = either() ? near(1, 9999) : Math.max(1, model.column(below(4), 2) + below(300));
                due("spread", grid.spread(column, depth), model.spread(column, depth));
                break;
            case 13:
                due("undo", grid.undo(), model.undo());
                break;
            case 14:
                due("keep", grid.keep(), model.keep());
                break;
            default:
                if (below(3) == 0) {
                    due("restore", grid.restore(), model.restore());
                } else {
                    putParagraph(column, flag);
                }
        }
    }

    private void changeSetting() {
        int what = near(0, 4);
        int value = what == 0 ? near(200, 9999) : what == 1 ? near(0, 500) : what == 2 ? near(20, 500) : near(0, 3);
        due("set", grid.set(what, value), model.set(what, value));
    }

    private void putParagraph(int column, boolean snapped) {
        int lines = either() ? near(1, 40) : near(1, 6);
        int size = either() ? near(40, 400) : near(40, 110);
        int leading = either() ? oneOf(size, size - 1, 120, 600) : size + below(60);
        due("paragraph", grid.paragraph(column, lines, size, leading, snapped),
            model.paragraph(column, lines, size, leading, snapped));
    }

    private void typeAndPut(int column) {
        if (below(4) == 0) {
            due("clearText", grid.clearText(), model.clearText());
        }
        String text = either() ? "p" + (1 + below(41)) + "*" + (38 + below(90)) + "/" + (110 + below(20)) + (either() ? "!" : "")
            : either() ? (either() ? "i" : "s") + (1 + below(100)) : PIECES[below(PIECES.length)];
        if (model.count(8) > 0 && below(5) > 0) {
            text = ";" + text;
        }
        for (int i = 0; i < text.length() && left > 10; i++) {
            due("type " + text.charAt(i), grid.type(text.charAt(i)), model.type(text.charAt(i)));
        }
        due("putAll", grid.putAll(column), model.putAll(column));
    }

    private void ask() {
        int column = near(0, 3);
        switch (below(7)) {
            case 0:
                int block = near(0, 15);
                int fact = near(0, 8);
                due("block " + fact, grid.block(column, block, fact), model.block(column, block, fact));
                break;
            case 1:
                int line = either() ? near(0, 60) : near(0, 5);
                int part = near(0, 4);
                due("line " + part, grid.line(column, line, part), model.line(column, line, part));
                break;
            case 2:
                int what = near(0, 9);
                due("column " + what, grid.column(column, what), model.column(column, what));
                break;
            case 3:
                int rank = either() ? near(0, 30) : near(0, 3);
                int of = near(0, 1);
                due("shared " + of, grid.shared(rank, of), model.shared(rank, of));
                break;
            case 4:
                int step = near(20, 500);
                int sum = near(0, 2);
                due("ifStep " + sum, grid.ifStep(step, sum), model.ifStep(step, sum));
                break;
            case 5:
                int from = near(20, 500);
                int to = either() ? from + below(9) : Math.min(500, from + below(30));
                due("bestStep", grid.bestStep(from, to), model.bestStep(from, to));
                break;
            default:
                int which = near(0, 15);
                due("count " + which, grid.count(which), model.count(which));
        }
    }
}
