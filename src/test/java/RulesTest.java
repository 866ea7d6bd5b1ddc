import java.io.IOException;
import java.lang.reflect.Field;
import java.lang.reflect.Method;
import java.lang.reflect.Modifier;
import java.nio.file.Files;
import java.nio.file.Path;
import java.util.ArrayList;
import java.util.Arrays;
import java.util.HashSet;
import java.util.List;
import java.util.Set;
import java.util.regex.Matcher;
import java.util.regex.Pattern;

/** What of LANGUAGE.md can be seen from the text and from the compiled class. */
public final class RulesTest {
    private static final String[] NOT_THERE = {"\\bthrow\\b", "\\btry\\b", "\\bcatch\\b", "\\bsynchronized\\b",
        "\\bassert\\b", "->", "::", "Exact\\(", "\\bSystem\\.(?!arraycopy)", "\\bimport (?!java\\.util\\.Arrays;)",
        "\\bpackage \\w", "\\binstanceof\\b", "\\.format\\(", "\\bObject\\b", "\\bequals\\(", "\\bhashCode\\b",
        "\\btoString\\b", "\\bfloat\\b", "\\bdouble\\b", "\\bvar\\b", "\\?\\?", "while \\(true\\)", "for \\(;;"};
    private static final Pattern HEAD = Pattern.compile("^( {4}| {8})(?! )(?!return|else|new)[\\w\\[\\]. ]*?\\w+\\(([^()]*)\\) \\{$");

    private RulesTest() {
    }

    public static void main(String[] args) throws IOException {
        List<String> lines = Files.readAllLines(Path.of("src/main/java/SkiMountain.java"));
        text(lines);
        methods(lines);
        face();
        Check.close();
    }

    private static void text(List<String> lines) {
        for (int n = 0; n < lines.size(); n++) {
            String code = lines.get(n).replaceAll("^\\s*(/?\\*|//).*", "").replaceAll("\"[^\"]*\"", "\"\"");
            for (String one : NOT_THERE) {
                Check.due("line " + (n + 1) + " has " + one, Pattern.compile(one).matcher(code).find(), false);
            }
            Check.due("line " + (n + 1) + " is plain text", lines.get(n).matches("[ -~]{0,110}"), true);
        }
    }

    private static void methods(List<String> lines) {
        int found = 0;
        for (int n = 0; n < lines.size(); n++) {
            Matcher head = HEAD.matcher(lines.get(n));
            if (!head.matches()) {
                continue;
            }
            found++;
            int end = n;
            while (!lines.get(end).equals(head.group(1) + "}")) {
                end++;
            }
            Check.due("method at line " + (n + 1) + " is too long", end - n + 1 > 60, false);
            Check.due("method at line " + (n + 1) + " takes too much", head.group(2).split(",").length > 7, false);
        }
        Check.due("methods are found", found > 100, true);
    }

    private static void face() {
        List<Class<?>> all = new ArrayList<>(Arrays.asList(SkiMountain.class.getDeclaredClasses()));
        Check.due("too many classes", all.size() > 12, false);
        Set<String> names = new HashSet<>();
        for (Method m : SkiMountain.class.getDeclaredMethods()) {
            if (Modifier.isPublic(m.getModifiers())) {
                names.add(m.getName());
            } else {
                Check.due(m + " is private", Modifier.isPrivate(m.getModifiers()), true);
            }
        }
        Check.due("methods of the face", names.size(), 29);
        all.add(SkiMountain.class);
        for (Class<?> one : all) {
            int fields = 0;
            for (Field f : one.getDeclaredFields()) {
                boolean fixed = Modifier.isStatic(f.getModifiers());
                Check.due(f + " is final", !fixed || Modifier.isFinal(f.getModifiers()), true);
                Check.due(f + " is private", Modifier.isPrivate(f.getModifiers()) || f.getName().equals("NONE"), true);
                fields += fixed ? 0 : 1;
            }
            Check.due(one + " has too many fields", fields > 20, false);
            Check.due(one + " is final", Modifier.isFinal(one.getModifiers()), true);
            for (Method m : one.getDeclaredMethods()) {
                boolean taken = names.contains(m.getName()) && !Modifier.isPublic(m.getModifiers());
                Check.due(m + " bears a public name", taken, false);
            }
        }
    }
}
