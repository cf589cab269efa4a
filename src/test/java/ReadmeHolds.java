import java.io.IOException;
import java.lang.reflect.Method;
import java.lang.reflect.Modifier;
import java.nio.file.Files;
import java.nio.file.Path;
import java.util.ArrayList;
import java.util.Arrays;
import java.util.List;
import java.util.regex.Matcher;
import java.util.regex.Pattern;

/** What README.md tells: its example is made call by call, its table is held against the class and its bounds. */
final class ReadmeHolds {
    private static final Pattern LINE =
            Pattern.compile("^wardens\\.(\\w+\\(.*\\));(?:\\s+// (\\w+|-\\d+)(?::.*)?)?$", Pattern.MULTILINE);
    private static final Pattern ROW =
            Pattern.compile("^\\| `(\\w+)\\((.*?)\\)` \\|(.*?)\\|(.*?)\\|(.*?)\\|$", Pattern.MULTILINE);
    private static final Pattern BOUNDS = Pattern.compile("-?\\d+\\.\\.-?\\d+");

    private ReadmeHolds() {
    }

    static void run(Check c, String root) {
        try {
            String readme = Files.readString(Path.of(root, "README.md"));
            example(c, readme);
            table(c, readme);
        } catch (IOException unread) {
            c.holds("cannot read: " + unread, false);
        }
    }

    private static void example(Check c, String readme) {
        List<String> run = new ArrayList<>();
        Matcher lines = LINE.matcher(readme);
        while (lines.find()) {
            run.add(lines.group(1) + (lines.group(2) == null ? "" : " = " + lines.group(2)));
        }
        Runs.due(c, "the example of README.md", run.toArray(new String[0]));
        c.due("lines of the example", readme.split("\nwardens\\.", -1).length - 1, run.size());
        c.holds("the example is seen", run.size() > 20);
    }

    private static void table(Check c, String readme) {
        c.about("the table of README.md");
        List<String> told = new ArrayList<>();
        Matcher rows = ROW.matcher(readme);
        while (rows.find()) {
            int count = rows.group(2).isEmpty() ? 0 : rows.group(2).split(", ").length;
            told.add(rows.group(1) + " of " + count + ", " + rows.group(5).trim());
            c.holds("the bounds of " + rows.group(1), bounds(rows.group(3)).equals(tried(rows.group(1))));
        }
        List<String> there = new ArrayList<>();
        for (Method method : Polderwardens.class.getDeclaredMethods()) {
            if (Modifier.isPublic(method.getModifiers())) {
                there.add(method.getName() + " of " + method.getParameterCount() + ", " + thrown(method));
            }
        }
        told.sort(null);
        there.sort(null);
        c.holds("it tells " + told + ", the class has " + there, told.equals(there));
    }

    private static String thrown(Method method) {
        return String.join(", ", Arrays.stream(method.getExceptionTypes()).map(ReadmeHolds::word).toList());
    }

    private static String word(Class<?> exception) {
        return exception == IndexOutOfBoundsException.class ? "index"
                : exception == IllegalArgumentException.class ? "argument" : "state";
    }

    private static List<String> bounds(String text) {
        return BOUNDS.matcher(text).results().map(found -> found.group()).toList();
    }

    /** The bounds at which EdgeArguments tries a call; its ranks hang on another argument in nextHeight. */
    private static List<String> tried(String name) {
        for (String call : EdgeArguments.CALLS) {
            if (call.startsWith(name + " ")) {
                return bounds(call);
            }
        }
        return name.equals("nextHeight") ? List.of("1..20") : List.of();
    }
}
