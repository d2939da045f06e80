import java.io.IOException;
import java.lang.reflect.Method;
import java.lang.reflect.Modifier;
import java.net.URI;
import java.nio.file.Files;
import java.nio.file.Path;
import java.util.List;
import java.util.regex.Matcher;
import java.util.regex.Pattern;
import java.util.stream.Stream;
import javax.tools.JavaFileObject;
import javax.tools.SimpleJavaFileObject;
import javax.tools.ToolProvider;

/** README.md: its Java compiles and answers as it says, shows the whole face, and its list of tests is the true one. */
public final class ReadmeTest {
    private static final Path TESTS = Path.of("src/test/java");
    private static final Pattern JAVA = Pattern.compile("(?s)```java\n(.*?)```");
    private static final Pattern ANSWERED = Pattern.compile("(\\w.*); +// (-?\\d+|true|false)(:.*)?");

    public static void main(String[] args) throws Exception {
        String readme = Files.readString(Path.of("README.md"));
        String code = javaOf(readme);
        dueWholeFace(code);
        dueEachRemarkAnAnswer(code);
        dueAnswers(code);
        dueTestsListed(readme);
        Due.end();
    }

    /** All the blocks as one, as the later ones go on with the object of the first. */
    private static String javaOf(String readme) {
        StringBuilder all = new StringBuilder();
        Matcher block = JAVA.matcher(readme);
        while (block.find()) {
            all.append(block.group(1));
        }
        return all.toString();
    }

    private static void dueWholeFace(String code) {
        for (Method method : RouteTrie.class.getDeclaredMethods()) {
            String call = "routes." + method.getName() + "(";
            if (Modifier.isPublic(method.getModifiers())) {
                Due.is("README.md shows " + call + ")", code.contains(call), true);
            }
        }
    }

    /** A remark that is read as no answer would go by without being compared. */
    private static void dueEachRemarkAnAnswer(String code) {
        for (String line : code.lines().filter(l -> l.contains("//")).toList()) {
            Due.is("README.md tells an answer in " + line, ANSWERED.matcher(line).matches(), true);
        }
    }

    private static void dueAnswers(String code) throws Exception {
        StringBuilder source = new StringBuilder("final class ReadmeExample {\n    static void run() {\n");
        for (String line : code.lines().toList()) {
            Matcher answered = ANSWERED.matcher(line);
            source.append(answered.matches() ? comparison(answered.group(1), answered.group(2)) : line).append('\n');
        }
        source.append("    }\n}\n");
        boolean compiles = compiled(source.toString());
        Due.is("README.md's Java compiles", compiles, true);
        if (compiles) {
            Class.forName("ReadmeExample").getDeclaredMethod("run").invoke(null);
        }
    }

    private static String comparison(String call, String answer) {
        return "Due.is(\"README.md: " + call + "\", " + call + ", " + answer + ");";
    }

    /** Beside the classes of this test, so that the example finds them and is found. */
    private static boolean compiled(String source) throws Exception {
        String here = Path.of(ReadmeTest.class.getProtectionDomain().getCodeSource().getLocation().toURI()).toString();
        JavaFileObject file = new SimpleJavaFileObject(URI.create("string:///ReadmeExample.java"),
                JavaFileObject.Kind.SOURCE) {
            @Override
            public CharSequence getCharContent(boolean ignoreEncodingErrors) {
                return source;
            }
        };
        List<String> options = List.of("-cp", here, "-d", here);
        return ToolProvider.getSystemJavaCompiler().getTask(null, null, null, options, null, List.of(file)).call();
    }

    private static void dueTestsListed(String readme) throws IOException {
        Matcher named = Pattern.compile("`(src/[\\w/]+\\.java)`").matcher(readme);
        while (named.find()) {
            Due.is("there is " + named.group(1), Files.exists(Path.of(named.group(1))), true);
        }
        try (Stream<Path> tests = Files.list(TESTS)) {
            for (Path test : tests.filter(t -> t.toString().endsWith("Test.java")).toList()) {
                Due.is("README.md names " + test, readme.contains("`" + test + "`"), true);
            }
        }
        Due.is("README.md says how to run them", readme.contains("```sh\n.ci/run\n```"), true);
        Due.is(".ci/run can be run", Files.isExecutable(Path.of(".ci/run")), true);
    }
}
