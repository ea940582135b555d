import java.io.IOException;
import java.lang.reflect.Constructor;
import java.lang.reflect.Field;
import java.lang.reflect.Method;
import java.lang.reflect.Modifier;
import java.nio.file.Files;
import java.nio.file.Path;
import java.util.Arrays;
import java.util.List;
import java.util.Set;
import java.util.TreeSet;
import java.util.stream.Collectors;

/** The face is the document's and no more; and what of LANGUAGE.md can be seen from the text of the class. */
public final class FaceTest {
    private static final Checks CHECKS = new Checks("FaceTest");

    public static void main(String[] args) throws IOException {
        List<String> document = Files.readAllLines(Path.of(System.getProperty("shared"), "DOC.md"));
        Set<String> face = faceOf(document);
        head(document);
        methods(face);
        promisesHaveTheFace(document, face);
        nothingElseIsSeen();
        words(Files.readString(Path.of(System.getProperty("main"))));
        sizes(Files.readAllLines(Path.of(System.getProperty("main"))));
        CHECKS.finish();
    }

    private static Set<String> faceOf(List<String> document) {
        return document.stream().filter(line -> line.startsWith("    public ")).map(String::strip)
                .collect(Collectors.toCollection(TreeSet::new));
    }

    private static void head(List<String> document) {
        Class<?> house = FormulaHouse.class;
        String head = Modifier.toString(house.getModifiers()) + " class " + house.getName() + " {";
        CHECKS.due("the document has " + head, document.contains(head), true);
        CHECKS.due("above it", house.getSuperclass(), Object.class);
        CHECKS.due("interfaces", house.getInterfaces().length, 0);
    }

    private static void methods(Set<String> due) {
        Set<String> got = new TreeSet<>();
        for (Constructor<?> made : FormulaHouse.class.getDeclaredConstructors()) {
            got.add(Modifier.toString(made.getModifiers()) + " FormulaHouse();");
            CHECKS.due("parameters of the constructor", made.getParameterCount(), 0);
        }
        for (Method method : FormulaHouse.class.getDeclaredMethods()) {
            if (!Modifier.isPrivate(method.getModifiers())) {
                got.add(method.toString().replace("FormulaHouse.", ""));
            }
        }
        CHECKS.due("how many the face has", due.size(), 24);
        CHECKS.due("what the face has", withoutNames(got), withoutNames(due));
    }

    /** The document and the machine write a method differently: names of parameters, packages, spaces. */
    private static Set<String> withoutNames(Set<String> methods) {
        return methods.stream()
                .map(text -> text.replace("java.lang.", "").replaceAll("int [a-z]+([,)])", "int$1"))
                .map(text -> text.replaceAll("[ ;]", ""))
                .collect(Collectors.toCollection(TreeSet::new));
    }

    /** The document tells each method twice; both must be one. */
    private static void promisesHaveTheFace(List<String> document, Set<String> face) {
        Set<String> told = new TreeSet<>();
        for (String line : document) {
            if (line.matches("`[^`]+`: .*")) {
                told.add("public " + line.substring(1, line.indexOf('`', 1)) + ";");
            }
        }
        CHECKS.due("what the promises tell", told, face);
    }

    private static void nothingElseIsSeen() {
        Set<String> shown = new TreeSet<>();
        Set<String> hidden = new TreeSet<>();
        for (Method method : FormulaHouse.class.getDeclaredMethods()) {
            (Modifier.isPrivate(method.getModifiers()) ? hidden : shown).add(method.getName());
        }
        hidden.retainAll(shown);
        CHECKS.due("private methods with a public one's name", hidden, Set.of());
        for (Field field : FormulaHouse.class.getDeclaredFields()) {
            CHECKS.due(field.getName() + " is private", Modifier.isPrivate(field.getModifiers()), true);
            boolean state = !Modifier.isStatic(field.getModifiers());
            CHECKS.due(field.getName() + " is final or of the object",
                    state || Modifier.isFinal(field.getModifiers()) && field.getType().isPrimitive(), true);
        }
        for (Class<?> inside : FormulaHouse.class.getDeclaredClasses()) {
            CHECKS.due(inside + " is private", Modifier.isPrivate(inside.getModifiers()), true);
            CHECKS.due(inside + " is static", Modifier.isStatic(inside.getModifiers()), true);
            for (Method method : inside.getDeclaredMethods()) {
                CHECKS.due(method + " is public", Modifier.isPublic(method.getModifiers()), false);
                CHECKS.due(method + " has at most seven parameters", method.getParameterCount() <= 7, true);
            }
        }
    }

    private static void words(String text) {
        for (String word : new String[] {"import ", "package ", "->", "::", "try ", "catch", "finally", "assert ",
            "synchronized", "Exact(", "System.", "hashCode", ".equals(", "toString", "@", "double", "float"}) {
            CHECKS.due("the class has no '" + word + "'", text.contains(word), false);
        }
        CHECKS.due("only characters up to 255", text.chars().allMatch(c -> c < 256), true);
    }

    private static void sizes(List<String> lines) {
        long classes = lines.stream().filter(line -> line.matches("    private .*class .*")).count();
        CHECKS.due("at most twelve classes", classes + 1 <= 12, true);
        int longest = 0;
        for (int from = 0; from < lines.size(); from++) {
            String line = lines.get(from);
            if (line.matches(" +[a-zA-Z].*[({].*\\{") && !line.contains(" class ")) {
                String end = " ".repeat(line.length() - line.stripLeading().length()) + "}";
                int many = lines.subList(from, lines.size()).indexOf(end);
                longest = Math.max(longest, many);
            }
        }
        CHECKS.due("methods were found", longest > 10, true);
        CHECKS.due("no method is longer than sixty lines", longest <= 60, true);
    }
}
