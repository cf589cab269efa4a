import java.util.regex.Matcher;
import java.util.regex.Pattern;

/**
 * Runs told as texts, each on a new object: "addBasin(10, 0); pour(0, 5) = 5; 3 x run(50); pour(0, -1) = wrong".
 * A call without an answer must not throw; none, wrong and not now are the three exceptions.
 */
final class Runs {
    private static final Pattern CALL = Pattern.compile("(?:(\\d+) x )?(\\w+)\\(([^)]*)\\)(?: = (.+))?");
    private static final int MOST_CALLS = 512;

    private final Check c;
    private final Polderwardens x;
    private int calls;

    private Runs(Check c, Polderwardens x) {
        this.c = c;
        this.x = x;
    }

    /** The sentence is the one of the document that the run is for. */
    static void due(Check c, String sentence, String... parts) {
        c.about("\"" + sentence + "\"");
        Runs run = new Runs(c, new Polderwardens());
        run.makeAll(parts);
        c.holds("a run of " + run.calls + " calls is too long", run.calls <= MOST_CALLS);
    }

    /** Goes on with an object. */
    static void on(Check c, Polderwardens x, String... parts) {
        new Runs(c, x).makeAll(parts);
    }

    private void makeAll(String... parts) {
        for (String part : parts) {
            for (String call : part.split(";")) {
                if (!call.isBlank()) {
                    make(call.trim());
                }
            }
        }
    }

    private void make(String text) {
        Matcher call = CALL.matcher(text);
        if (!call.matches()) {
            c.holds("no call: " + text, false);
            return;
        }
        int times = call.group(1) == null ? 1 : Integer.parseInt(call.group(1));
        for (int i = 0; i < times; i++) {
            calls++;
            String got = Answers.of(x, call.group(2), numbers(call.group(3)));
            String want = call.group(4);
            boolean holds = want == null ? !got.endsWith("Exception") : inFull(want).equals(got);
            c.holds("call " + calls + ", " + text + ", answered " + got, holds);
        }
    }

    private static String inFull(String want) {
        switch (want) {
            case "none": return "IndexOutOfBoundsException";
            case "wrong": return "IllegalArgumentException";
            case "not now": return "IllegalStateException";
            case "true": return "1";
            case "false": return "0";
            case "no hour": return "" + Long.MIN_VALUE;
            default: return want;
        }
    }

    private static int[] numbers(String text) {
        if (text.isEmpty()) {
            return new int[0];
        }
        String[] words = text.split(", ");
        int[] numbers = new int[words.length];
        for (int i = 0; i < words.length; i++) {
            numbers[i] = words[i].equals("true") ? 1 : words[i].equals("false") ? 0 : Integer.parseInt(words[i]);
        }
        return numbers;
    }
}
