import java.util.ArrayList;
import java.util.List;
import java.util.TreeMap;
import java.util.regex.Matcher;
import java.util.regex.Pattern;

/**
 * The document once more, written for clearness alone and in another way than the program: lists that are copied, the
 * grid walked baseline by baseline, texts matched by a pattern, nothing remembered between two calls.
 */
final class Model {
    private static final String LINES = "([1-9]|[123][0-9]|40)";
    private static final String SIZE = "([1-9][0-9]?|[123][0-9][0-9]|400)";
    private static final String LEADING = "([1-9][0-9]?|[1-5][0-9][0-9]|600)";
    private static final String HEIGHT = "([1-9][0-9]{0,2}|[12][0-9]{3}|3000)";
    private static final String BLOCK = "(p" + LINES + "\\*" + SIZE + "/" + LEADING + "!?|[is]" + HEIGHT + ")";
    private static final Pattern BLOCKS = Pattern.compile(BLOCK + "(;" + BLOCK + ")*");

    private record Block(int kind, int lines, int size, int leading, boolean snapped, int height) {
        Block withLines(int n) {
            return new Block(kind, n, size, leading, snapped, height);
        }
    }

    private record State(List<Integer> settings, List<List<Block>> columns) {
    }

    private record SetLine(int baseline, int block) {
    }

    /** What is set of a column. */
    private static final class Look {
        final List<SetLine> lines = new ArrayList<>();
        final List<int[]> blocks = new ArrayList<>();
        int end = 0;
        int overflow = -1;
    }

    private State state = new State(List.of(6000, 100, 120, 1, 2), List.of(List.of(), List.of(), List.of(), List.of()));
    private final List<State> history = new ArrayList<>();
    private State snapshot = null;
    private String text = "";

    private void act(State next) {
        history.add(state);
        if (history.size() > 4) {
            history.remove(0);
        }
        state = next;
    }

    private State with(int column, List<Block> blocks) {
        List<List<Block>> columns = new ArrayList<>(state.columns);
        columns.set(column, List.copyOf(blocks));
        return new State(state.settings, columns);
    }

    private List<Block> blocksOf(int column) {
        return new ArrayList<>(state.columns.get(column));
    }

    private int next(int place, int step) {
        int baseline = state.settings.get(1);
        while (baseline < place) {
            baseline += step;
        }
        return baseline;
    }

    private int drift(int baseline, int step) {
        int above = state.settings.get(1);
        while (above > baseline) {
            above -= step;
        }
        while (above + step <= baseline) {
            above += step;
        }
        return baseline - above;
    }

    private boolean onGrid(int baseline, int step) {
        return next(baseline, step) == baseline;
    }

    private Look look(int column, int step) {
        Look look = new Look();
        int height = state.settings.get(0);
        int cursor = 0;
        int index = -1;
        for (Block b : state.columns.get(column)) {
            index++;
            int ahead = cursor;
            int parts = 0;
            if (look.overflow < 0 && b.kind == 0) {
                int ascent = (int) Math.floor(b.size * 7 / 10.0);
                int descent = (int) Math.floor(b.size * 3 / 10.0);
                int last = 0;
                while (parts < b.lines) {
                    int baseline = parts == 0 ? cursor + ascent : last + b.leading;
                    if (b.snapped) {
                        baseline = next(baseline, step);
                    }
                    if (baseline + descent > height) {
                        look.overflow = index;
                        break;
                    }
                    look.lines.add(new SetLine(baseline, index));
                    last = baseline;
                    cursor = baseline + descent;
                    parts++;
                }
            } else if (look.overflow < 0 && b.kind == 1) {
                if (cursor + b.height > height) {
                    look.overflow = index;
                } else {
                    cursor += b.height;
                    parts = 1;
                    if (state.settings.get(3) == 1) {
                        cursor = next(cursor, step);
                    }
                }
            } else if (look.overflow < 0) {
                parts = 1;
                cursor += cursor == 0 ? 0 : b.height;
            }
            look.blocks.add(new int[] {ahead, cursor, parts});
        }
        look.end = cursor;
        return look;
    }

    private Look look(int column) {
        return look(column, state.settings.get(2));
    }

    private static boolean in(int value, int least, int greatest) {
        return least <= value && value <= greatest;
    }

    int set(int what, int value) {
        int[][] ranges = {{200, 9999}, {0, 500}, {20, 500}, {0, 1}, {1, 3}};
        if (!in(what, 0, 4) || !in(value, ranges[what][0], ranges[what][1])) {
            return -2;
        }
        int previous = state.settings.get(what);
        if (previous == value) {
            return -5;
        }
        List<Integer> settings = new ArrayList<>(state.settings);
        settings.set(what, value);
        act(new State(settings, state.columns));
        return previous;
    }

    private int add(int column, List<Block> more) {
        List<Block> blocks = blocksOf(column);
        blocks.addAll(more);
        if (blocks.size() > 16) {
            return -3;
        }
        act(with(column, blocks));
        return blocks.size();
    }

    int paragraph(int column, int lines, int size, int leading, boolean snapped) {
        if (!in(column, 0, 3)) {
            return -1;
        }
        if (!in(lines, 1, 40) || !in(size, 40, 400) || !in(leading, size, 600)) {
            return -2;
        }
        int size2 = add(column, List.of(new Block(0, lines, size, leading, snapped, 0)));
        return size2 < 0 ? size2 : size2 - 1;
    }

    int put(int column, boolean picture, int height) {
        if (!in(column, 0, 3)) {
            return -1;
        }
        if (!in(height, 1, 3000)) {
            return -2;
        }
        int size = add(column, List.of(new Block(picture ? 1 : 2, 0, 0, 0, false, height)));
        return size < 0 ? size : size - 1;
    }

    int putAll(int column) {
        if (!in(column, 0, 3)) {
            return -1;
        }
        if (!BLOCKS.matcher(text).matches()) {
            for (int i = 0; i < text.length(); i++) {
                Matcher prefix = BLOCKS.matcher(text.substring(0, i + 1));
                if (!prefix.matches() && !prefix.hitEnd()) {
                    return -100 - i;
                }
            }
            return -100 - text.length();
        }
        List<Block> blocks = new ArrayList<>();
        for (String part : text.split(";")) {
            if (part.charAt(0) == 'p') {
                String[] numbers = part.substring(1).replace("!", "").split("[*/]");
                int size = Integer.parseInt(numbers[1]);
                int leading = Integer.parseInt(numbers[2]);
                if (size < 40 || leading < size) {
                    return -2;
                }
                blocks.add(new Block(0, Integer.parseInt(numbers[0]), size, leading, part.endsWith("!"), 0));
            } else {
                blocks.add(new Block(part.charAt(0) == 'i' ? 1 : 2, 0, 0, 0, false, Integer.parseInt(part.substring(1))));
            }
        }
        return add(column, blocks);
    }

    private boolean isBlock(int column, int block) {
        return in(column, 0, 3) && in(block, 0, state.columns.get(column).size() - 1);
    }

    int remove(int column, int block) {
        if (!isBlock(column, block)) {
            return -1;
        }
        List<Block> blocks = blocksOf(column);
        blocks.remove(block);
        act(with(column, blocks));
        return blocks.size();
    }

    int snap(int column, int block, boolean snapped) {
        if (!isBlock(column, block)) {
            return -1;
        }
        List<Block> blocks = blocksOf(column);
        Block b = blocks.get(block);
        if (b.kind != 0) {
            return -4;
        }
        if (b.snapped == snapped) {
            return -5;
        }
        blocks.set(block, new Block(0, b.lines, b.size, b.leading, snapped, 0));
        act(with(column, blocks));
        return look(column).end;
    }

    int flow(int column) {
        if (!in(column, 0, 3)) {
            return -1;
        }
        if (column == 3) {
            return -4;
        }
        Look look = look(column);
        if (look.overflow < 0) {
            return -5;
        }
        List<Block> all = blocksOf(column);
        List<Block> moved = new ArrayList<>(all.subList(look.overflow, all.size()));
        List<Block> staying = new ArrayList<>(all.subList(0, look.overflow));
        Block first = moved.get(0);
        int set = look.blocks.get(look.overflow)[2];
        int least = state.settings.get(4);
        if (first.kind == 0 && set > 0) {
            while (set > 0 && first.lines - set < least) {
                set--;
            }
            if (set >= least) {
                staying.add(first.withLines(set));
                moved.set(0, first.withLines(first.lines - set));
            }
        }
        int count = moved.size();
        moved.addAll(blocksOf(column + 1));
        if (moved.size() > 16) {
            return -3;
        }
        List<List<Block>> columns = new ArrayList<>(state.columns);
        columns.set(column, List.copyOf(staying));
        columns.set(column + 1, List.copyOf(moved));
        act(new State(state.settings, columns));
        return count;
    }

    int spread(int column, int depth) {
        if (!in(column, 0, 3)) {
            return -1;
        }
        if (!in(depth, 1, 9999)) {
            return -2;
        }
        Look look = look(column);
        List<Block> blocks = blocksOf(column);
        List<Integer> spaces = new ArrayList<>();
        for (int i = 0; i < blocks.size(); i++) {
            boolean ahead = false;
            boolean behind = false;
            for (int j = 0; j < blocks.size(); j++) {
                if (blocks.get(j).kind != 2 && look.blocks.get(j)[2] > 0) {
                    ahead |= j < i;
                    behind |= j > i;
                }
            }
            if (blocks.get(i).kind == 2 && ahead && behind) {
                spaces.add(i);
            }
        }
        int missing = Math.max(depth - look.end, 0);
        int rank = 0;
        for (int i : spaces) {
            int more = missing / spaces.size() + (rank < missing % spaces.size() ? 1 : 0);
            rank++;
            Block b = blocks.get(i);
            blocks.set(i, new Block(2, 0, 0, 0, false, Math.min(3000, b.height + more)));
        }
        if (blocks.equals(state.columns.get(column))) {
            return -5;
        }
        act(with(column, blocks));
        return look(column).end;
    }

    int type(char character) {
        if (text.length() == 60) {
            return -3;
        }
        text += character;
        return text.length();
    }

    int clearText() {
        int length = text.length();
        text = "";
        return length;
    }

    int undo() {
        if (history.isEmpty()) {
            return -5;
        }
        state = history.remove(history.size() - 1);
        return history.size();
    }

    int keep() {
        snapshot = state;
        return count(0);
    }

    int restore() {
        if (snapshot == null) {
            return -5;
        }
        act(snapshot);
        return count(0);
    }

    int block(int column, int block, int what) {
        if (!isBlock(column, block)) {
            return -1;
        }
        Block b = state.columns.get(column).get(block);
        int[] set = look(column).blocks.get(block);
        boolean isParagraph = b.kind == 0;
        switch (what) {
            case 0: return b.kind;
            case 1: return isParagraph ? b.lines : -5;
            case 2: return isParagraph ? b.size : -5;
            case 3: return isParagraph ? b.leading : -5;
            case 4: return !isParagraph ? -5 : b.snapped ? 1 : 0;
            case 5: return isParagraph ? -5 : b.height;
            case 6: return set[2] == 0 ? -5 : set[0];
            case 7: return set[2] == 0 ? -5 : set[1];
            case 8: return set[2];
            default: return -2;
        }
    }

    private boolean isMet(int baseline, int column) {
        return in(column, 0, 3) && look(column).lines.stream().anyMatch(l -> l.baseline == baseline);
    }

    int line(int column, int line, int what) {
        if (!in(column, 0, 3)) {
            return -1;
        }
        if (line < 0 || !in(what, 0, 4)) {
            return -2;
        }
        List<SetLine> lines = look(column).lines;
        if (line >= lines.size()) {
            return -5;
        }
        SetLine l = lines.get(line);
        int[] answers = {l.baseline, drift(l.baseline, state.settings.get(2)), l.block,
            isMet(l.baseline, column - 1) ? 1 : 0, isMet(l.baseline, column + 1) ? 1 : 0};
        return answers[what];
    }

    int column(int column, int what) {
        if (!in(column, 0, 3)) {
            return -1;
        }
        Look look = look(column);
        int step = state.settings.get(2);
        List<Block> blocks = state.columns.get(column);
        switch (what) {
            case 0: return blocks.size();
            case 1: return look.lines.size();
            case 2: return look.end;
            case 3: return blocks.stream().mapToInt(b -> b.lines).sum() - look.lines.size();
            case 4: return (int) look.blocks.stream().filter(b -> b[2] == 0).count();
            case 5: return look.lines.stream().mapToInt(l -> drift(l.baseline, step)).sum();
            case 6: return look.lines.stream().mapToInt(l -> drift(l.baseline, step)).max().orElse(0);
            case 7: return (int) look.lines.stream().filter(l -> onGrid(l.baseline, step)).count();
            case 8: return (int) look.lines.stream()
                .filter(l -> isMet(l.baseline, column - 1) || isMet(l.baseline, column + 1)).count();
            case 9: return state.settings.get(0) - look.end;
            default: return -2;
        }
    }

    int shared(int rank, int what) {
        if (rank < 0 || !in(what, 0, 1)) {
            return -2;
        }
        TreeMap<Integer, Integer> columns = new TreeMap<>();
        for (int column = 0; column < 4; column++) {
            look(column).lines.forEach(l -> columns.merge(l.baseline, 1, Integer::sum));
        }
        columns.values().removeIf(n -> n < 2);
        if (rank >= columns.size()) {
            return -5;
        }
        int baseline = new ArrayList<>(columns.keySet()).get(rank);
        return what == 0 ? baseline : columns.get(baseline);
    }

    int ifStep(int step, int what) {
        if (!in(step, 20, 500) || !in(what, 0, 2)) {
            return -2;
        }
        int[] sums = new int[3];
        for (int column = 0; column < 4; column++) {
            for (SetLine l : look(column, step).lines) {
                sums[0] += drift(l.baseline, step);
                sums[1]++;
                sums[2] += onGrid(l.baseline, step) ? 1 : 0;
            }
        }
        return sums[what];
    }

    int bestStep(int from, int to) {
        if (!in(from, 20, 500) || !in(to, from, 500)) {
            return -2;
        }
        int best = from;
        for (int step = from; step <= to; step++) {
            if (ifStep(step, 0) <= ifStep(best, 0)) {
                best = step;
            }
        }
        return best;
    }

    int count(int what) {
        int sum = 0;
        if (what == 0 || what == 1 || what == 2 || what == 3) {
            int[] told = {0, 1, 5, 3};
            for (int column = 0; column < 4; column++) {
                sum += column(column, told[what]);
            }
            return sum;
        }
        if (what == 4 || what == 5) {
            for (int column = 0; column < 4; column++) {
                sum = what == 4 ? sum + (look(column).overflow >= 0 ? 1 : 0) : Math.max(sum, look(column).end);
            }
            return sum;
        }
        if (what == 6) {
            for (int b = state.settings.get(1); b <= state.settings.get(0); b += state.settings.get(2)) {
                sum++;
            }
            return sum;
        }
        if (what == 7) {
            return history.size();
        }
        if (what == 8) {
            return text.length();
        }
        return in(what, 10, 14) ? state.settings.get(what - 10) : -2;
    }
}
