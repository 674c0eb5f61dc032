import java.io.IOException;
import java.lang.reflect.Method;
import java.lang.reflect.Modifier;
import java.nio.file.Files;
import java.nio.file.Path;

/** The example of README.md: its calls answer what stands behind them there, and every method is named. */
public final class ReadmeTest {
    private static String readme;
    private static int calls = 0;
    private static int from = 0;

    public static void main(String[] args) throws IOException {
        readme = Files.readString(Path.of("README.md"));
        example();
        Due.is("calls with an answer in README.md", readme.split("\\n *grid\\.\\w+\\(.*; +// -?\\d").length - 1, calls);
        for (Method m : BaselineGrid.class.getDeclaredMethods()) {
            if (Modifier.isPublic(m.getModifiers())) {
                Due.is("README.md names " + m.getName(), readme.contains("`" + m.getName() + "`") ? 1 : 0, 1);
            }
        }
        Due.end();
    }

    private static void example() {
        BaselineGrid grid = new BaselineGrid();
        stands("grid.set(0, 700);", grid.set(0, 700));
        stands("grid.paragraph(0, 8, 100, 120, true);", grid.paragraph(0, 8, 100, 120, true));
        stands("grid.column(0, 3);", grid.column(0, 3));
        stands("grid.flow(0);", grid.flow(0));
        stands("grid.line(1, 0, 0);", grid.line(1, 0, 0));
        stands("grid.line(1, 0, 3);", grid.line(1, 0, 3));
        Due.is("the text of the example", readme.contains("\"i200;s30;p2*100/120!\"") ? 1 : 0, 1);
        Due.types(grid, "i200;s30;p2*100/120!");
        stands("grid.putAll(2);", grid.putAll(2));
        stands("grid.column(2, 2);", grid.column(2, 2));
        stands("grid.spread(2, 610);", grid.spread(2, 610));
        stands("grid.block(2, 1, 5);", grid.block(2, 1, 5));
        stands("grid.undo();", grid.undo());
        stands("grid.block(2, 1, 5);", grid.block(2, 1, 5));
        stands("grid.remove(2, 3);", grid.remove(2, 3));
    }

    /** The call stands in README.md, behind the call before, with its answer on the same line. */
    private static void stands(String call, int answer) {
        calls++;
        int at = readme.indexOf(call, from);
        Due.is("README.md has " + call, at >= 0 ? 1 : 0, 1);
        if (at >= 0) {
            from = at + call.length();
            String told = readme.substring(from, readme.indexOf('\n', from)).replaceAll("^ *// (-?\\d+): .*", "$1");
            Due.is(call, answer, told.matches("-?\\d+") ? Integer.parseInt(told) : Integer.MIN_VALUE);
        }
    }
}
