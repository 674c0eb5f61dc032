/** Counts and prints the answers that are not the due ones. */
final class Due {
    private static int wrong = 0;
    private static int asked = 0;

    private Due() {
    }

    static void is(String call, long got, long due) {
        asked++;
        if (got != due) {
            wrong++;
            System.out.println(call + " answered " + got + ", due is " + due);
        }
    }

    /** Types a whole text, of which every character must find room. */
    static void types(BaselineGrid grid, String text) {
        grid.clearText();
        for (int i = 0; i < text.length(); i++) {
            is("type(" + text.charAt(i) + ") in " + text, grid.type(text.charAt(i)), i + 1);
        }
    }

    /** A text of its own, put into a column of a new object. */
    static int putAllOf(String text) {
        BaselineGrid grid = new BaselineGrid();
        types(grid, text);
        return grid.putAll(0);
    }

    static void end() {
        System.out.println(asked + " answers, " + wrong + " not as due");
        if (wrong != 0 || asked == 0) {
            System.exit(1);
        }
    }
}
