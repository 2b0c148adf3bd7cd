import java.io.File;
import java.io.IOException;
import java.lang.reflect.Method;
import java.lang.reflect.Modifier;
import java.nio.file.Files;
import java.nio.file.Path;
import java.util.Set;
import java.util.TreeSet;
import java.util.regex.Matcher;
import java.util.regex.Pattern;

/** README.md must say what is so: its example is run line by line, and the calls and tests that it names are there. */
public final class ReadmeTest {
    private static final Check check = new Check("ReadmeTest");
    private static final Path PAGE = Path.of("README.md");
    private static final File TESTS = new File("src/test/java");
    private static final int LEAST_LINES = 15;

    private ReadmeTest() {
    }

    public static void main(String[] args) throws IOException {
        String page = Files.readString(PAGE);
        example(page);
        calls(page);
        functions(page);
        tests(page);
        check.end();
    }

    /** Each line of the example is called; where it says "answers" or "throws", that must be so. */
    private static void example(String page) {
        int start = page.indexOf("```java");
        String[] lines = page.substring(start, page.indexOf("```", start + 3)).split("\n");
        Pattern form = Pattern.compile("works\\.(\\w+)\\((.*)\\); +// (.*)");
        TabulaWorks works = new TabulaWorks();
        int called = 0;
        for (String line : lines) {
            Matcher call = form.matcher(line);
            if (call.matches()) {
                called++;
                String name = call.group(1);
                String told = call.group(3);
                String got = answer(works, name, call.group(2));
                if (told.startsWith("answers ") || told.startsWith("throws ")) {
                    check.is(name + " " + got, name + " " + told.split(": ")[0]);
                }
            }
        }
        check.is(called >= LEAST_LINES && called == lines.length - 2, true);
    }

    private static String answer(TabulaWorks works, String name, String told) {
        String[] words = told.isEmpty() ? new String[0] : told.split(", ");
        int[] arguments = new int[words.length];
        for (int k = 0; k < words.length; k++) {
            boolean isWhether = words[k].equals("true") || words[k].equals("false");
            arguments[k] = isWhether ? words[k].equals("true") ? 1 : 0 : Integer.parseInt(words[k]);
        }
        Object got = ByName.call(works, name, arguments);
        if (got instanceof Class) {
            return "throws " + ((Class<?>) got).getSimpleName();
        }
        return "answers " + (got instanceof String ? "\"" + got + "\"" : String.valueOf(got));
    }

    /** The table of what there is names each call of the face, and no other. */
    private static void calls(String page) {
        Set<String> face = new TreeSet<>();
        for (Method method : TabulaWorks.class.getDeclaredMethods()) {
            if (Modifier.isPublic(method.getModifiers())) {
                face.add(method.getName());
            }
        }
        int start = page.indexOf("| to | there are |");
        check.is(namesOf("`(\\w+)`", page.substring(start, page.indexOf("\n\n", start))), face);
    }

    private static void functions(String page) {
        for (int function = 0; function <= 15; function++) {
            TabulaWorks x = new TabulaWorks();
            x.formula(0, 0, function, 0, 0, 0);
            String words = x.words(0, 0);
            check.is(page.replaceAll("\\s+", " ").contains(function + " `" + words.substring(1, words.indexOf('(')) + "`"), true);
        }
    }

    /** The table of tests names each test that .ci/run runs, and no other. */
    private static void tests(String page) {
        Set<String> there = new TreeSet<>();
        String[] files = TESTS.list();
        for (String file : files == null ? new String[0] : files) {
            if (file.endsWith("Test.java") || file.endsWith("Runs.java")) {
                there.add(file.substring(0, file.length() - ".java".length()));
            }
        }
        int start = page.indexOf("| test | what it holds |");
        check.is(namesOf("(?m)^\\| `(\\w+)` \\|", page.substring(start, page.indexOf("\n\n", start))), there);
        check.is(page.contains("```sh\n.ci/run\n```") && new File(".ci/run").canExecute(), true);
    }

    private static Set<String> namesOf(String form, String part) {
        Set<String> names = new TreeSet<>();
        Matcher found = Pattern.compile(form).matcher(part);
        while (found.find()) {
            names.add(found.group(1));
        }
        return names;
    }
}
