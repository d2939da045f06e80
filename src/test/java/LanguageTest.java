import java.io.IOException;
import java.nio.file.Files;
import java.nio.file.Path;
import java.util.HashMap;
import java.util.Map;
import java.util.Set;
import java.util.regex.Matcher;
import java.util.regex.Pattern;

/** What of LANGUAGE.md can be seen in the text of the program; FaceTest looks at rules 1 and 5. */
public final class LanguageTest {
    private static final Path PROGRAM = Path.of("src/main/java/RouteTrie.java");
    private static final Set<String> NO_METHODS = Set.of("if", "for", "while", "switch", "return");
    private static final Pattern NAME_BEFORE_BRACKET = Pattern.compile("\\b(\\w+)\\s*\\(");
    private static final Pattern METHOD_HEAD =
            Pattern.compile("(?m)^( {4}| {8})(?:public|private)[\\w ]* (\\w+)\\(([^)]*)\\) \\{$");

    private final String code;
    private final Map<String, String> bodies = new HashMap<>();

    private LanguageTest(String code) {
        this.code = code;
    }

    public static void main(String[] args) throws IOException {
        String text = Files.readString(PROGRAM);
        LanguageTest test = new LanguageTest(text.replaceAll("(?s)/\\*.*?\\*/", "").replaceAll("//.*", ""));
        test.dueOneFileWithoutPackage();
        test.dueNoForbiddenWords();
        test.dueLoopsAlongChains();
        test.dueOnlyTheLibraryListed();
        test.dueObjectsOfItsOwnOnly();
        test.dueShortMethods();
        test.dueNoRecursionAndFewCallsDeep();
        test.dueFewClassesAndFields();
        Due.end();
    }

    private void dueOneFileWithoutPackage() {
        dueNone("package line", "(?m)^\\s*package\\b");
        dueNone("import", "(?m)^\\s*import\\b");
        Due.is("classes beside the public one", timesOf("(?m)^(?!public)\\w.*\\{$"), 0);
    }

    private void dueNoForbiddenWords() {
        dueNone("lambda or arrow (rule 2)", "->");
        dueNone("method reference (rule 2)", "::");
        dueNone("NaN, double or float (rule 3)", "\\b(double|float|NaN)\\b");
        dueNone("static block (rule 5)", "\\bstatic\\s*\\{");
        dueNone("exception, as the document names none (rule 6)", "\\b(throw|throws|try|catch|finally)\\b");
        dueNone("forbidden word (rule 6)", "\\b(synchronized|assert|equals|hashCode|toString)\\b");
        dueNone("division (rule 7)", "[/%]");
    }

    private void dueLoopsAlongChains() {
        long loops = timesOf("\\b(while|for|do)\\b");
        Due.is("rule 9: loops that end with a chain of nodes", timesOf("\\bwhile \\(\\w+ != null\\b"), loops);
    }

    private void dueOnlyTheLibraryListed() {
        Matcher used = Pattern.compile("\\b([A-Z]\\w*[a-z]\\w*)\\.(\\w+)").matcher(code);
        while (used.find()) {
            Due.is("rule 4 allows " + used.group(), Set.of("Integer", "Math").contains(used.group(1)), true);
            Due.is("rule 4: Exact in " + used.group(), used.group(2).endsWith("Exact"), false);
        }
        dueNone("clock, chance, file, thread (rule 13)", "\\b(System|Thread|Random|File|java)\\b");
    }

    private void dueObjectsOfItsOwnOnly() {
        Due.is("rule 12: all that is made are nodes", timesOf("\\bnew\\b"), timesOf("\\bnew Node\\("));
        Due.is("rule 12: places where nodes are made", timesOf("\\bnew Node\\("), 2);
    }

    private void dueShortMethods() {
        Matcher head = METHOD_HEAD.matcher(code);
        while (head.find()) {
            int end = code.indexOf("\n" + head.group(1) + "}", head.end());
            String body = code.substring(head.end(), end);
            bodies.merge(head.group(2), body, (a, b) -> a + b);
            Due.is("rule 11: lines of " + head.group(2) + " over 60", body.lines().count() > 60, false);
            Due.is("rule 11: parameters of " + head.group(2) + " over 7", head.group(3).split(",").length > 7, false);
        }
        Due.is("methods found", bodies.size() > 20, true);
    }

    private void dueNoRecursionAndFewCallsDeep() {
        for (String method : bodies.keySet()) {
            Due.is("rules 8 and 11: " + method + " goes over 8 calls deep", deepest(method, 1) > 8, false);
        }
    }

    /** Stops at ten, so that recursion shows as too deep as well. */
    private int deepest(String method, int level) {
        int most = level;
        Matcher called = NAME_BEFORE_BRACKET.matcher(bodies.get(method));
        while (level < 10 && called.find()) {
            String name = called.group(1);
            if (bodies.containsKey(name) && !NO_METHODS.contains(name)) {
                most = Math.max(most, deepest(name, level + 1));
            }
        }
        return most;
    }

    private void dueFewClassesAndFields() {
        Class<?>[] inside = RouteTrie.class.getDeclaredClasses();
        Due.is("rule 11: more than 12 classes", inside.length + 1 > 12, false);
        for (Class<?> type : inside) {
            Due.is("rule 11: more than 20 fields in " + type, type.getDeclaredFields().length > 20, false);
        }
    }

    private void dueNone(String what, String pattern) {
        Due.is("times of a " + what, timesOf(pattern), 0);
    }

    private long timesOf(String pattern) {
        return Pattern.compile(pattern).matcher(code).results().count();
    }
}
