import java.io.IOException;
import java.lang.reflect.Constructor;
import java.lang.reflect.Method;
import java.lang.reflect.Modifier;
import java.nio.file.Files;
import java.nio.file.Path;
import java.util.ArrayList;
import java.util.List;
import java.util.Set;
import java.util.TreeSet;
import java.util.regex.Matcher;
import java.util.regex.Pattern;

/** The rules of ../shared/LANGUAGE.md that can be read off the source and the class: face, words, lengths. */
public final class LanguageTest {
    private static final Check check = new Check("LanguageTest");
    private static final Path SOURCE = Path.of("src/main/java/TabulaWorks.java");
    private static final Path DOCUMENT = Path.of("../shared/DOC.md");
    private static final String[] FORBIDDEN = {"->", "::", "\\bfinally\\b", "\\bsynchronized\\b", "\\bassert\\b",
        "\\btry\\b", "\\bvar\\b", "\\bString\\.valueOf", "\\bSystem\\.(?!arraycopy)", "\\bMath\\.\\w+Exact",
        "Math\\.(?!min\\(|max\\(|abs\\()", "\"\\s*\\+", "\\+\\s*\"", "\\bpackage\\s", "\\bequals\\(", "\\bhashCode\\b",
        "\\bObject\\b", "\\b0x", "\\bnull\\b"};

    private LanguageTest() {
    }

    public static void main(String[] args) throws IOException {
        String source = Files.readString(SOURCE);
        face();
        documentsFace();
        forbidden(source);
        methods(source);
        check.end();
    }

    /** Nothing but the face is public, protected or package-visible, and no private method bears its names. */
    private static void face() {
        Set<String> open = new TreeSet<>();
        for (Method method : TabulaWorks.class.getDeclaredMethods()) {
            if (Modifier.isPublic(method.getModifiers())) {
                open.add(method.getName());
            }
        }
        for (Method method : TabulaWorks.class.getDeclaredMethods()) {
            int modifiers = method.getModifiers();
            check.is(Modifier.isPublic(modifiers) || Modifier.isPrivate(modifiers), true);
            check.is(Modifier.isPrivate(modifiers) && open.contains(method.getName()), false);
        }
        for (var field : TabulaWorks.class.getDeclaredFields()) {
            check.is(Modifier.isPrivate(field.getModifiers()), true);
            check.is(!Modifier.isStatic(field.getModifiers()) || Modifier.isFinal(field.getModifiers()), true);
        }
        check.is(TabulaWorks.class.getDeclaredConstructors().length, 1);
        check.is(TabulaWorks.class.getDeclaredClasses().length <= 12, true);
        for (Class<?> inside : TabulaWorks.class.getDeclaredClasses()) {
            check.is(Modifier.isStatic(inside.getModifiers()) && Modifier.isPrivate(inside.getModifiers()), true);
            check.is(inside.getDeclaredFields().length <= 20, true);
            for (Method method : inside.getDeclaredMethods()) {
                check.is(open.contains(method.getName()), false);
                check.is(method.getParameterCount() <= 7, true);
            }
        }
    }

    private static void documentsFace() throws IOException {
        Set<String> due = new TreeSet<>();
        Matcher found = Pattern.compile("(?m)^    public (?!final class)(.*);$").matcher(Files.readString(DOCUMENT));
        while (found.find()) {
            due.add(found.group(1).replaceAll("(\\(|, )(\\w+) \\w+", "$1$2"));
        }
        Set<String> got = new TreeSet<>();
        for (Constructor<?> made : TabulaWorks.class.getConstructors()) {
            got.add("TabulaWorks(" + (made.getParameterCount() == 0 ? "" : "?") + ")");
        }
        for (Method method : TabulaWorks.class.getDeclaredMethods()) {
            if (Modifier.isPublic(method.getModifiers())) {
                String head = method.getReturnType().getSimpleName() + " " + method.getName() + "("
                    + names(method.getParameterTypes()) + ")";
                got.add(head + (method.getExceptionTypes().length > 0 ? " throws " : "")
                    + names(method.getExceptionTypes()));
            }
        }
        check.is(due.size(), 33);
        check.is(got, due);
    }

    private static String names(Class<?>[] types) {
        List<String> all = new ArrayList<>();
        for (Class<?> type : types) {
            all.add(type.getSimpleName());
        }
        return String.join(", ", all);
    }

    private static void forbidden(String source) {
        String code = source.replaceAll("(?s)/\\*.*?\\*/", "").replaceAll("//[^\n]*", "");
        for (String word : FORBIDDEN) {
            Matcher found = Pattern.compile(word).matcher(code);
            check.is(found.find() ? word + " is found" : "", "");
        }
        Matcher imports = Pattern.compile("(?m)^import (.*);").matcher(code);
        while (imports.find()) {
            check.is(imports.group(1), "java.util.Arrays");
        }
        check.is(source.chars().allMatch(sign -> sign == '\n' || sign >= 32 && sign < 127), true);
    }

    /** Methods stay under some sixty lines. */
    private static void methods(String source) {
        String[] lines = source.split("\n");
        for (int k = 0; k < lines.length; k++) {
            Matcher head = Pattern.compile("^( {4}| {8})(?! )(?!.*\\bclass\\b).*\\{$").matcher(lines[k]);
            if (head.matches()) {
                int end = k;
                while (!lines[end].equals(head.group(1) + "}")) {
                    end++;
                }
                check.is(end - k < 60 ? "" : lines[k], "");
            }
        }
    }
}
