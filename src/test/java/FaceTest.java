import java.io.IOException;
import java.lang.reflect.Constructor;
import java.lang.reflect.Field;
import java.lang.reflect.Method;
import java.lang.reflect.Modifier;
import java.nio.file.Files;
import java.nio.file.Path;
import java.util.ArrayList;
import java.util.List;
import java.util.Set;
import java.util.TreeSet;

/** The members that can be seen from outside are those of the document's code block, and no others. */
public final class FaceTest {
    public static void main(String[] args) throws IOException {
        String text = Files.readString(Path.of("../shared/DOC.md"));
        int start = text.indexOf("public final class RiverSeniority {");
        Set<String> due = new TreeSet<>();
        for (String line : text.substring(start, text.indexOf("```", start)).split("\n")) {
            String bare = line.trim();
            if (bare.endsWith(";") && !bare.equals("}")) {
                due.add(plain(bare));
            }
        }
        Set<String> got = new TreeSet<>(found());
        if (due.size() != 59 || !due.equals(got)) {
            Set<String> missing = new TreeSet<>(due);
            missing.removeAll(got);
            got.removeAll(due);
            System.out.println("missing: " + missing + ", not in the document: " + got);
            System.exit(1);
        }
        System.out.println(due.size() + " members are those of the document");
    }

    /** A declaration without names of parameters and values of constants. */
    private static String plain(String line) {
        if (line.indexOf('(') < 0) {
            return line.replaceAll(" *=.*", "");
        }
        int open = line.indexOf('(');
        int close = line.indexOf(')');
        List<String> types = new ArrayList<>();
        for (String one : line.substring(open + 1, close).split(",")) {
            if (!one.isBlank()) {
                types.add(one.trim().split(" ")[0]);
            }
        }
        String rest = line.substring(close + 1).replace(";", "").trim();
        return line.substring(0, open) + "(" + String.join(", ", types) + ")" + (rest.isEmpty() ? "" : " " + rest);
    }

    private static List<String> found() {
        List<String> found = new ArrayList<>();
        for (Field field : RiverSeniority.class.getDeclaredFields()) {
            if (!Modifier.isPrivate(field.getModifiers())) {
                found.add(Modifier.toString(field.getModifiers()) + " " + field.getType() + " " + field.getName());
            }
        }
        for (Constructor<?> one : RiverSeniority.class.getDeclaredConstructors()) {
            if (!Modifier.isPrivate(one.getModifiers())) {
                found.add(Modifier.toString(one.getModifiers()) + " RiverSeniority"
                    + signature(one.getParameterTypes(), one.getExceptionTypes()));
            }
        }
        for (Method method : RiverSeniority.class.getDeclaredMethods()) {
            if (!Modifier.isPrivate(method.getModifiers())) {
                found.add(Modifier.toString(method.getModifiers()) + " " + method.getReturnType() + " "
                    + method.getName() + signature(method.getParameterTypes(), method.getExceptionTypes()));
            }
        }
        return found;
    }

    private static String signature(Class<?>[] parameters, Class<?>[] exceptions) {
        List<String> types = new ArrayList<>();
        for (Class<?> type : parameters) {
            types.add(type.getSimpleName());
        }
        List<String> thrown = new ArrayList<>();
        for (Class<?> type : exceptions) {
            thrown.add(type.getSimpleName());
        }
        return "(" + String.join(", ", types) + ")" + (thrown.isEmpty() ? "" : " throws " + String.join(", ", thrown));
    }
}
