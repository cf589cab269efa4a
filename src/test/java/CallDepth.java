import java.util.HashMap;
import java.util.HashSet;
import java.util.Map;
import java.util.Set;
import java.util.regex.Matcher;
import java.util.regex.Pattern;

/**
 * Rule 11: how long methods are, and how deep their calls go, as their names tell; each name stands once.
 * Rule 12: objects are made where the document adds something, so that a run makes few.
 */
final class CallDepth {
    private static final Pattern HEAD =
            Pattern.compile("^( {4}| {8})(?:(?:public|private) )?(?:[\\w\\[\\]]+ )?(\\w+)\\(.*[^;]$");

    /** The makers, each for one thing that is added, but for the land's own crews. */
    private static final Set<String> MAKERS = Set.of("Land", "act", "newBasin", "newGate", "tellRain", "addStorm");

    private final Check c;
    private final Map<String, String> bodies = new HashMap<>();

    private CallDepth(Check c, String source) {
        this.c = c;
        String name = null;
        String indent = "";
        StringBuilder body = new StringBuilder();
        for (String line : source.split("\n")) {
            Matcher head = HEAD.matcher(line);
            if (name == null && head.matches() && !line.trim().startsWith("*")) {
                indent = head.group(1);
                name = head.group(2);
                body.setLength(0);
            } else if (name != null && line.equals(indent + "}")) {
                add(name, body.toString());
                name = null;
            } else {
                body.append(line).append('\n');
            }
        }
    }

    private void add(String name, String body) {
        c.holds(name + " is longer than sixty lines", body.split("\n").length <= 60);
        c.holds(name + " stands twice", bodies.put(name, body) == null);
        boolean makes = body.replace("throw new ", "").contains("new ");
        c.holds(name + " makes an object", !makes || MAKERS.contains(name));
    }

    static void run(Check c, String source) {
        c.about("rules 11 and 12, methods");
        CallDepth all = new CallDepth(c, source);
        c.holds("methods are seen", all.bodies.size() > 100);
        for (String name : all.bodies.keySet()) {
            int depth = all.depth(name, new HashSet<>());
            c.holds(name + " goes " + depth + " deep", depth <= 8);
        }
    }

    private int depth(String name, Set<String> open) {
        if (!bodies.containsKey(name)) {
            return 0;
        }
        if (!open.add(name)) {
            c.holds(name + " calls itself", false);
            return 0;
        }
        int deepest = 0;
        Matcher calls = Pattern.compile("\\b(\\w+)\\(").matcher(bodies.get(name));
        while (calls.find()) {
            deepest = Math.max(deepest, depth(calls.group(1), open));
        }
        open.remove(name);
        return deepest + 1;
    }
}
