import java.io.IOException;
import java.lang.reflect.InvocationTargetException;
import java.lang.reflect.Method;
import java.nio.file.Files;
import java.nio.file.Path;
import java.util.List;
import java.util.regex.Matcher;
import java.util.regex.Pattern;

/** README.md tells the truth: its calls answer what stands behind them, and its table of KINDS is what add() takes. */
public final class ReadmeTest {
    private static final Pattern CALL = Pattern.compile("press\\.(\\w+)\\((.*)\\); +// (throws \\w+|-?\\d+): .+");
    private static final Pattern KIND = Pattern.compile("(\\d+) [A-Z]+");
    private static final int LEAST = -101;
    private static final int MOST = 101;

    public static void main(String[] args) throws IOException, IllegalAccessException {
        List<String> lines = Files.readAllLines(Path.of("README.md"));
        int calls = 0;
        int kinds = 0;
        BranchPress press = new BranchPress();
        for (String line : lines) {
            if (line.startsWith("press.")) {
                call(press, line);
                calls++;
            }
            if (line.matches("\\| \\d+ [A-Z].*")) {
                kinds += kinds(line.split("\\|", -1));
            }
        }
        Check.same("calls in README.md, at least 10", calls >= 10 ? 1 : 0, 1);
        Check.same("KINDS in README.md", kinds, 11);
        Check.finish("ReadmeTest");
    }

    private static void call(BranchPress press, String line) throws IllegalAccessException {
        Matcher told = CALL.matcher(line);
        Check.same("a call is told in '" + line + "'", told.matches() ? 1 : 0, 1);
        if (!told.matches()) {
            return;
        }
        String got = answer(press, told.group(1), told.group(2).isEmpty() ? new String[0] : told.group(2).split(", "));
        Check.same(line + " [answered " + got + "] is true", got.equals(told.group(3)) ? 1 : 0, 1);
    }

    private static String answer(BranchPress press, String name, String[] told) throws IllegalAccessException {
        for (Method method : BranchPress.class.getMethods()) {
            if (!method.getName().equals(name) || method.getParameterCount() != told.length) {
                continue;
            }
            Object[] values = new Object[told.length];
            for (int i = 0; i < told.length; i++) {
                boolean isFlag = method.getParameterTypes()[i] == boolean.class;
                values[i] = isFlag ? (Object) Boolean.valueOf(told[i]) : (Object) Integer.valueOf(told[i]);
            }
            try {
                return String.valueOf(method.invoke(press, values));
            } catch (InvocationTargetException e) {
                return "throws " + e.getCause().getClass().getSimpleName();
            }
        }
        return "nothing, there is no such call";
    }

    /** Returns how many KINDS the row of the table tells. */
    private static int kinds(String[] cells) {
        Matcher kinds = KIND.matcher(cells[1]);
        int found = 0;
        while (kinds.find()) {
            kind(Integer.parseInt(kinds.group(1)), cells);
            found++;
        }
        return found;
    }

    private static void kind(int kind, String[] cells) {
        int x = some(cells[2], -1);
        int y = some(cells[3], -1);
        int n = some(cells[4], 0);
        for (int other = LEAST; other <= MOST; other++) {
            takes(kind, other, y, n, false, has(cells[2], other, -1));
            takes(kind, x, other, n, false, has(cells[3], other, -1));
            takes(kind, x, y, other, false, has(cells[4], other, 0));
        }
        takes(kind, x, y, n, true, cells[5].trim().equals("yes"));
    }

    private static void takes(int kind, int x, int y, int n, boolean isRelative, boolean due) {
        boolean got = true;
        try {
            new BranchPress().add(0, kind, x, y, n, isRelative);
        } catch (IllegalArgumentException e) {
            got = false;
        }
        String call = "add(0, " + kind + ", " + x + ", " + y + ", " + n + ", " + isRelative + ")";
        Check.same(call + " is taken", got ? 1 : 0, due ? 1 : 0);
    }

    private static boolean has(String cell, int number, int unnamed) {
        Matcher span = Pattern.compile("(-?\\d+) to (-?\\d+)").matcher(cell);
        if (span.find()) {
            return number >= Integer.parseInt(span.group(1)) && number <= Integer.parseInt(span.group(2));
        }
        if (cell.isBlank()) {
            return number == unnamed;
        }
        return List.of(cell.trim().split(", | or ")).contains(String.valueOf(number));
    }

    private static int some(String cell, int unnamed) {
        for (int number = LEAST; number <= MOST; number++) {
            if (has(cell, number, unnamed)) {
                return number;
            }
        }
        return unnamed;
    }
}
