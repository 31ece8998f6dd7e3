import java.io.IOException;
import java.nio.file.Files;
import java.nio.file.Path;
import java.util.HashSet;
import java.util.List;
import java.util.Set;
import java.util.regex.Matcher;
import java.util.regex.Pattern;

/** Looks over the source for what the rules of LANGUAGE.md leave out, as far as its text shows it. */
public final class LanguageTest {
    private static int wrong = 0;

    public static void main(String[] args) throws IOException {
        List<String> lines = Files.readAllLines(Path.of("src/main/java/RiverSeniority.java"));
        StringBuilder code = new StringBuilder();
        for (String line : lines) {
            String bare = line.trim();
            boolean isComment = bare.startsWith("//") || bare.startsWith("*") || bare.startsWith("/*");
            code.append(isComment ? "" : line.replaceAll("\"[^\"]*\"", "\"\"")).append('\n');
        }
        wordsLeftOut(code.toString());
        imports(code.toString());
        names();
        methods(code.toString());
        if (wrong != 0) {
            System.exit(1);
        }
        System.out.println("the source shows nothing that the rules leave out");
    }

    private static void complain(String text) {
        wrong++;
        System.out.println(text);
    }

    private static void wordsLeftOut(String code) {
        String[] patterns = {"->", "::", "\\bfinally\\b", "\\btry\\b", "\\bcatch\\b", "\\bsynchronized\\b", "\\bassert\\b",
            "\\bvar\\b", "\\bstatic\\s*\\{", "\\bprotected\\b", "\"\"\\s*\\+", "\\+\\s*\"\"", "\\bMath\\.\\w+Exact\\b",
            "\\b(Thread|Random|System\\.(nanoTime|currentTimeMillis|out|err)|File|String\\.format)\\b", "\\bwhile\\s*\\(true\\)",
            "\\bfor\\s*\\(;;\\)", "\\bpackage\\b"};
        for (String pattern : patterns) {
            Matcher found = Pattern.compile(pattern).matcher(code);
            if (found.find()) {
                complain("the source has " + pattern + ": " + found.group());
            }
        }
        int classes = code.split("\\b(class|enum|interface|record) [A-Z]", -1).length - 1;
        if (classes > 12) {
            complain(classes + " classes");
        }
        for (int i = 0; i < code.length(); i++) {
            if (code.charAt(i) > 126) {
                complain("a sign above 126");
                break;
            }
        }
    }

    private static void imports(String code) {
        Matcher found = Pattern.compile("import (.*);").matcher(code);
        while (found.find()) {
            if (!Set.of("java.util.Arrays", "java.util.NoSuchElementException").contains(found.group(1))) {
                complain("import " + found.group(1));
            }
        }
    }

    /** No private method, nor one of a class inside, bears the name of a public one. */
    private static void names() {
        Set<String> open = new HashSet<>();
        for (java.lang.reflect.Method method : RiverSeniority.class.getDeclaredMethods()) {
            if (java.lang.reflect.Modifier.isPublic(method.getModifiers())) {
                open.add(method.getName());
            }
        }
        for (java.lang.reflect.Method method : RiverSeniority.class.getDeclaredMethods()) {
            if (java.lang.reflect.Modifier.isPrivate(method.getModifiers()) && open.contains(method.getName())) {
                complain("a private method is called " + method.getName());
            }
        }
        for (Class<?> inside : RiverSeniority.class.getDeclaredClasses()) {
            int fields = 0;
            for (java.lang.reflect.Field field : inside.getDeclaredFields()) {
                fields += java.lang.reflect.Modifier.isStatic(field.getModifiers()) ? 0 : 1;
            }
            if (fields > 20) {
                complain(inside.getSimpleName() + " has " + fields + " fields");
            }
            for (java.lang.reflect.Method method : inside.getDeclaredMethods()) {
                if (open.contains(method.getName())) {
                    complain(inside.getSimpleName() + " has a method " + method.getName());
                }
            }
        }
    }

    /** Methods of at most 60 lines and 7 parameters. */
    private static void methods(String code) {
        Matcher head = Pattern.compile("\\n( +)(?:[\\w<>\\[\\]]+ )*(\\w+)\\(([^)]*)\\)[^;{}]*\\{(?=\\n)").matcher(code);
        int count = 0;
        while (head.find()) {
            count++;
            int end = code.indexOf("\n" + head.group(1) + "}", head.end() - 1);
            int length = code.substring(head.start(), end).split("\n").length;
            if (length > 60) {
                complain(head.group(2) + " has " + length + " lines");
            }
            if (head.group(3).split(",").length > 7) {
                complain(head.group(2) + " has more than 7 parameters");
            }
        }
        if (count < 100) {
            complain("only " + count + " methods were found");
        }
    }
}
