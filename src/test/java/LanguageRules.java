import java.io.IOException;
import java.lang.reflect.Constructor;
import java.lang.reflect.Field;
import java.lang.reflect.Method;
import java.lang.reflect.Modifier;
import java.nio.file.Files;
import java.nio.file.Path;
import java.util.ArrayList;
import java.util.Arrays;
import java.util.List;
import java.util.regex.Matcher;
import java.util.regex.Pattern;

/** What of LANGUAGE.md can be seen from the class and its text; the face is taken from the document itself. */
final class LanguageRules {
    private LanguageRules() {
    }

    static void run(Check c, String root) {
        try {
            face(c, Files.readString(Path.of(root, "..", "shared", "DOC.md")));
            String source = Files.readString(Path.of(root, "src", "main", "java", "Polderwardens.java"));
            text(c, source);
            CallDepth.run(c, source);
        } catch (IOException unread) {
            c.holds("cannot read: " + unread, false);
        }
        members(c);
        insides(c);
    }

    /** Each method of the document's face stands, with the exceptions in the document's order. */
    private static void face(Check c, String document) {
        c.about("rule 1, the face");
        Matcher lines = Pattern.compile("^    public (?:(\\w+) )?(\\w+)\\((.*?)\\)(?: throws (.*?))?;$", Pattern.MULTILINE)
                .matcher(document);
        List<String> want = new ArrayList<>();
        while (lines.find()) {
            if (lines.group(1) == null) {
                continue;
            }
            String types = lines.group(3).replaceAll("(\\w+) \\w+", "$1");
            want.add(lines.group(1) + " " + lines.group(2) + "(" + types + ") "
                    + (lines.group(4) == null ? "" : lines.group(4)));
        }
        List<String> got = new ArrayList<>();
        for (Method method : Polderwardens.class.getDeclaredMethods()) {
            if (!Modifier.isPrivate(method.getModifiers())) {
                got.add(method.getReturnType().getSimpleName() + " " + method.getName() + "("
                        + names(method.getParameterTypes()) + ") " + names(method.getExceptionTypes()));
            }
        }
        c.due("methods in the document", 36, want.size());
        want.sort(null);
        got.sort(null);
        c.holds("the face is " + got + ", the document's " + want, want.equals(got));
    }

    private static String names(Class<?>[] types) {
        return String.join(", ", Arrays.stream(types).map(Class::getSimpleName).toList());
    }

    private static void members(Check c) {
        c.about("rule 1, members");
        int modifiers = Polderwardens.class.getModifiers();
        c.holds("public and final", Modifier.isPublic(modifiers) && Modifier.isFinal(modifiers));
        Constructor<?>[] constructors = Polderwardens.class.getDeclaredConstructors();
        c.holds("one public constructor", constructors.length == 1 && Modifier.isPublic(constructors[0].getModifiers()));
        List<String> open = new ArrayList<>();
        for (Method method : Polderwardens.class.getDeclaredMethods()) {
            if (Modifier.isPublic(method.getModifiers())) {
                open.add(method.getName());
            }
        }
        for (Class<?> inside : classes()) {
            for (Method method : inside.getDeclaredMethods()) {
                c.holds(method + " bears a public name", Modifier.isPublic(method.getModifiers())
                        || !open.contains(method.getName()));
            }
        }
        for (Field field : Polderwardens.class.getDeclaredFields()) {
            c.holds(field + " is private", Modifier.isPrivate(field.getModifiers()));
        }
    }

    private static List<Class<?>> classes() {
        List<Class<?>> all = new ArrayList<>(List.of(Polderwardens.class.getDeclaredClasses()));
        all.add(Polderwardens.class);
        return all;
    }

    private static void insides(Check c) {
        c.about("rules 2, 5, 11");
        c.holds("twelve classes at most", classes().size() <= 12);
        for (Class<?> inside : classes()) {
            int fields = 0;
            for (Field field : inside.getDeclaredFields()) {
                boolean isStatic = Modifier.isStatic(field.getModifiers());
                c.holds(field + " is final", !isStatic || Modifier.isFinal(field.getModifiers()));
                fields += isStatic ? 0 : 1;
            }
            c.holds(inside + " has at most twenty fields", fields <= 20);
            c.holds(inside + " is no local class", inside.getEnclosingMethod() == null);
            for (Method method : inside.getDeclaredMethods()) {
                c.holds(method + " takes at most seven", method.getParameterCount() <= 7);
            }
        }
    }

    private static void text(Check c, String source) {
        c.about("rules 3, 4, 6, 9 to 13");
        String bare = source.replaceAll("(?s)/\\*.*?\\*/", "").replaceAll("//[^\\n]*", "");
        String[] never = {"->", "::", "try", "catch", "finally", "import", "package", "synchronized", "assert",
            "native", "static {", "System", "Object", "float", "double", "Exact", "toString", "hashCode", "equals",
            "random", "Thread", "Runtime", "Process", "while (true)", "for (;;)"};
        for (String word : never) {
            c.holds("the text has " + word, !bare.contains(word));
        }
        Matcher thrown = Pattern.compile("throw new (\\w+)\\((\"[^\"]*\")?\\);").matcher(bare);
        int throwsSeen = 0;
        while (thrown.find()) {
            throwsSeen++;
        }
        c.due("throws of the one form", bare.split("\\bthrow\\b", -1).length - 1, throwsSeen);
        c.holds("signs are plain", source.chars().allMatch(sign -> sign == '\n' || sign >= 32 && sign < 127));
    }
}
