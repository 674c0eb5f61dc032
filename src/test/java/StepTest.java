/** Promises 19 and 20: ifStep, bestStep. */
public final class StepTest {
    public static void main(String[] args) {
        ifSteps();
        bestSteps();
        nothingChanges();
        everyStepAsIfItWereSet();
        theBestOfAnyRange();
        Due.end();
    }

    private static void ifSteps() {
        BaselineGrid x = new BaselineGrid();
        x.set(0, 600);
        x.paragraph(0, 5, 100, 100, true);
        x.paragraph(1, 3, 100, 110, false);
        // Column 1: 70, 180, 290 always. Column 0 with 120: 100, 220, 340, 460 (580 overflows).
        Due.is("ifStep(120, 0)", x.ifStep(120, 0), 90 + 80 + 70);
        Due.is("ifStep(120, 1)", x.ifStep(120, 1), 7);
        Due.is("ifStep(120, 2)", x.ifStep(120, 2), 4);
        // With 100: 100, 200, 300, 400, 500.
        Due.is("ifStep(100, 0)", x.ifStep(100, 0), 70 + 80 + 90);
        Due.is("ifStep(100, 1)", x.ifStep(100, 1), 8);
        Due.is("ifStep(100, 2)", x.ifStep(100, 2), 5);
        // With 80: 100, 260, 420, 580 overflows; 70, 180, 290.
        Due.is("ifStep(80, 0)", x.ifStep(80, 0), 50 + 0 + 30);
        Due.is("ifStep(80, 1)", x.ifStep(80, 1), 6);
        Due.is("ifStep(80, 2)", x.ifStep(80, 2), 4);
        // With 500: 100; 600 overflows.
        Due.is("ifStep(500, 0)", x.ifStep(500, 0), 470 + 80 + 190);
        Due.is("ifStep(500, 1)", x.ifStep(500, 1), 4);
        Due.is("ifStep(20, 1)", x.ifStep(20, 1), 8);
        Due.is("ifStep(19, 0)", x.ifStep(19, 0), -2);
        Due.is("ifStep(501, 0)", x.ifStep(501, 0), -2);
        Due.is("ifStep(0, 0)", x.ifStep(0, 0), -2);
        Due.is("ifStep(MIN, 0)", x.ifStep(Integer.MIN_VALUE, 0), -2);
        Due.is("ifStep(20, 3)", x.ifStep(20, 3), -2);
        Due.is("ifStep(20, -1)", x.ifStep(20, -1), -2);
        BaselineGrid y = new BaselineGrid();
        y.put(0, true, 150);
        y.paragraph(0, 1, 100, 100, false);
        Due.is("a picture is rounded with the other step", y.ifStep(30, 0), (160 + 70 - 100) % 30);
        y.set(3, 0);
        Due.is("or not rounded", y.ifStep(30, 0), (150 + 70 - 100) % 30);
    }

    private static void bestSteps() {
        BaselineGrid x = new BaselineGrid();
        Due.is("no lines", x.bestStep(20, 500), 500);
        Due.is("no lines, one step", x.bestStep(77, 77), 77);
        x.put(0, true, 20);
        x.set(3, 0);
        x.paragraph(0, 3, 115, 115, false);
        // Lines at 100, 215, 330: drifts from 100: 0, 115, 230.
        Due.is("bestStep(20, 500)", x.bestStep(20, 500), 115);
        Due.is("bestStep(20, 114)", x.bestStep(20, 114), 23);
        Due.is("bestStep(116, 500)", x.bestStep(116, 500), 230);
        Due.is("bestStep(116, 229)", x.bestStep(116, 229), 229);
        Due.is("bestStep(231, 500)", x.bestStep(231, 500), 500);
        Due.is("bestStep(500, 500)", x.bestStep(500, 500), 500);
        Due.is("bestStep(20, 20)", x.bestStep(20, 20), 20);
        Due.is("bestStep(19, 20)", x.bestStep(19, 20), -2);
        Due.is("bestStep(20, 501)", x.bestStep(20, 501), -2);
        Due.is("bestStep(21, 20)", x.bestStep(21, 20), -2);
        Due.is("bestStep(501, 501)", x.bestStep(501, 501), -2);
        Due.is("bestStep(MIN, MAX)", x.bestStep(Integer.MIN_VALUE, Integer.MAX_VALUE), -2);
        // A step that drives lines off the page leaves less to sum.
        BaselineGrid y = new BaselineGrid();
        y.set(0, 400);
        y.paragraph(0, 1, 100, 100, true);
        y.paragraph(0, 1, 100, 110, true);
        y.paragraph(0, 1, 100, 110, false);
        Due.is("bestStep(300, 400)", y.bestStep(300, 400), 400);
        Due.is("bestStep(100, 200)", y.bestStep(100, 200), 200);
        Due.is("bestStep(100, 170)", y.bestStep(100, 170), 100);
        Due.is("bestStep(101, 170)", y.bestStep(101, 170), 170);
        Due.is("bestStep(101, 171)", y.bestStep(101, 171), 171);
    }

    private static void nothingChanges() {
        BaselineGrid x = new BaselineGrid();
        x.paragraph(0, 5, 100, 100, true);
        x.ifStep(20, 0);
        x.bestStep(20, 500);
        Due.is("the step", x.count(12), 120);
        Due.is("the end", x.column(0, 2), 610);
        Due.is("the second line", x.line(0, 1, 0), 220);
        Due.is("count(7)", x.count(7), 1);
    }

    /** Snapped and unsnapped lines and a picture, of which some overflow with some steps. */
    private static BaselineGrid scene() {
        BaselineGrid x = new BaselineGrid();
        x.set(0, 900);
        x.paragraph(0, 5, 100, 110, true);
        x.put(0, true, 130);
        x.paragraph(0, 2, 50, 60, false);
        x.paragraph(2, 7, 90, 97, false);
        x.paragraph(3, 3, 70, 240, true);
        return x;
    }

    /** "Tells what another step would bring": the same as after the step is set; with the step as it is, as it is. */
    private static void everyStepAsIfItWereSet() {
        for (int step = 20; step <= 500; step++) {
            BaselineGrid x = scene();
            int[] told = {x.ifStep(step, 0), x.ifStep(step, 1), x.ifStep(step, 2)};
            x.set(2, step);
            int onGrid = 0;
            for (int column = 0; column < 4; column++) {
                onGrid += x.column(column, 7);
            }
            Due.is("ifStep(" + step + ", 0)", told[0], x.count(2));
            Due.is("ifStep(" + step + ", 1)", told[1], x.count(1));
            Due.is("ifStep(" + step + ", 2)", told[2], onGrid);
        }
    }

    /** "the least. Returns the step, from the one to the other; of several the greatest one". */
    private static void theBestOfAnyRange() {
        int[] sums = new int[501];
        for (int step = 20; step <= 500; step++) {
            sums[step] = scene().ifStep(step, 0);
        }
        for (int from = 20; from <= 500; from += 3) {
            for (int to = from; to <= 500; to += 1 + (to - from) / 2) {
                int best = from;
                for (int step = from; step <= to; step++) {
                    best = sums[step] <= sums[best] ? step : best;
                }
                Due.is("bestStep(" + from + ", " + to + ")", scene().bestStep(from, to), best);
            }
        }
        BaselineGrid x = new BaselineGrid();
        // Every line is on the grid with every step: of all the greatest one.
        x.set(0, 9999);
        x.paragraph(0, 9, 100, 120, true);
        Due.is("all steps are as good", x.bestStep(20, 500), 500);
        Due.is("all steps to 499 are as good", x.bestStep(20, 499), 499);
    }
}
