import java.util.Arrays;

/**
 * Each argument of each call at its least and its greatest, just outside and far outside, all of them
 * with one another, so that it shows which exception comes first: on a land with room and money,
 * and on one where all that may be full is full.
 */
final class EdgeArguments {
    /** What is asked again and again on an object, lest it gets more than 512 calls. */
    private static final int MOST_ASKED = 150;

    /**
     * "#" is a number of things, then how many the roomy and the full land have; "#-1" takes -1 too;
     * "@" is an end; "?" is true or false; others are the least and the greatest.
     * "!" tells that the call is refused when all is full, "!2" if its argument 2 costs something.
     */
    static final String[] CALLS = {
        "addBasin 1..100 -500..500 !",
        "setLand #4,8 0..20 0..9999 0..99",
        "pour #4,8 0..1000000",
        "road #4,8 #4,8 ?",
        "addGate @ @ 1..9999 0..3 !",
        "addPump @ @ 1..9999 0..999 1..999 !",
        "addDyke @ @ -500..999 1..999 0..99 !",
        "setOutside -99..99 0..400 -9999..99999",
        "storm 0..9999 1..99 1..500 !",
        "rain #4,8 0..9999 1..99 1..9999 !",
        "setSeed 0..9999",
        "command #3,8 ? 0..3",
        "drive #3,8 ? 0..99 !2",
        "mend #3,8 !",
        "send #3,3 #-1,3,8 0..99 !2",
        "budget 0..9999 0..9999",
        "raise #3,8 1..99 1..9 !",
        "run 1..50 !",
        "level @",
        "water #4,8",
        "harm #4,8",
        "ledger 0..3",
        "isOpen #3,8",
        "pump #3,8 0..2",
        "dyke #3,8 0..2",
        "crew #3,3 0..2",
        "sea 0..9999",
        "forecast 1..48",
        "record #20,20",
        "share 0..999999 #4,8",
    };

    private final Check c;
    private final boolean full;
    private Polderwardens x;
    private int asked;

    private EdgeArguments(Check c, boolean full) {
        this.c = c;
        this.full = full;
    }

    static void run(Check c) {
        c.about("the arguments' edges, with room");
        EdgeArguments roomy = new EdgeArguments(c, false);
        for (String call : CALLS) {
            roomy.allOf(call.split(" "));
        }
        c.about("the arguments' edges, all being full");
        EdgeArguments full = new EdgeArguments(c, true);
        for (String call : CALLS) {
            full.allOf(call.split(" "));
        }
    }

    private void allOf(String[] words) {
        int count = words.length - (words[words.length - 1].startsWith("!") ? 2 : 1);
        String[] specs = Arrays.copyOfRange(words, 1, 1 + count);
        String refusal = words.length - 1 > count ? words[count + 1] : "";
        int[] chosen = new int[count];
        fill(words[0], specs, refusal, chosen, 0);
    }

    /** Goes through all values of the argument at this place, with all of the places behind it. */
    private void fill(String call, String[] specs, String refusal, int[] chosen, int place) {
        if (place == chosen.length) {
            make(call, specs, refusal, chosen);
            return;
        }
        for (int value : values(specs[place], chosen.length <= 3)) {
            chosen[place] = value;
            fill(call, specs, refusal, chosen, place + 1);
        }
    }

    private int[] values(String spec, boolean farToo) {
        if (spec.equals("?")) {
            return new int[] {0, 1};
        }
        if (spec.equals("@")) {
            return new int[] {-1, 0, most("#4,8"), most("#4,8") + 1, 19, 20, 21, 22, Integer.MIN_VALUE};
        }
        int least = least(spec);
        int most = most(spec);
        return farToo ? new int[] {Integer.MIN_VALUE, least - 1, least, most, most + 1, Integer.MAX_VALUE}
                : new int[] {least - 1, least, most, most + 1};
    }

    private static int least(String spec) {
        return spec.startsWith("#") ? spec.startsWith("#-1") ? -1 : 0 : Integer.parseInt(spec.split("\\.\\.")[0]);
    }

    private int most(String spec) {
        if (!spec.startsWith("#")) {
            return Integer.parseInt(spec.split("\\.\\.")[1]);
        }
        String[] counts = spec.substring(1).split(",");
        return Integer.parseInt(counts[counts.length - (full ? 1 : 2)]) - 1;
    }

    private void make(String call, String[] specs, String refusal, int[] a) {
        if (x == null || asked >= MOST_ASKED) {
            x = full ? Lands.full() : Lands.roomy();
            asked = 0;
        }
        asked++;
        String want = due(specs, refusal, a);
        String got = Answers.of(x, call, a);
        boolean holds = want.isEmpty() ? !got.endsWith("Exception") : want.equals(got);
        c.holds(call + Arrays.toString(a) + " must throw \"" + want + "\", answered " + got, holds);
        // a land stays full by all that is done there, but for money that is given
        if (want.isEmpty() && (!full || call.equals("budget"))) {
            x = null;
        }
    }

    private String due(String[] specs, String refusal, int[] a) {
        boolean outOfRange = specs.length > 1 && isPlace(specs[0]) && specs[0].equals(specs[1])
                && (a[0] == a[1] || a[0] >= 20 && a[1] >= 20);
        for (int i = 0; i < a.length; i++) {
            if (isPlace(specs[i]) && !isThere(specs[i], a[i])) {
                return "IndexOutOfBoundsException";
            }
            outOfRange |= !isPlace(specs[i]) && !specs[i].equals("?") && !isThere(specs[i], a[i]);
        }
        if (outOfRange) {
            return "IllegalArgumentException";
        }
        boolean refused = refusal.equals("!") || refusal.equals("!2") && a[2] > 0;
        return full && refused ? "IllegalStateException" : "";
    }

    private static boolean isPlace(String spec) {
        return spec.startsWith("#") || spec.equals("@");
    }

    private boolean isThere(String spec, int value) {
        if (spec.equals("@")) {
            return value == 20 || value == 21 || value >= 0 && value <= most("#4,8");
        }
        return value >= least(spec) && value <= most(spec);
    }
}
