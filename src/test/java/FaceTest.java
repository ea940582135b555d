import java.io.IOException;
import java.lang.reflect.Constructor;
import java.lang.reflect.Field;
import java.lang.reflect.Method;
import java.lang.reflect.Modifier;
import java.nio.file.Files;
import java.nio.file.Path;
import java.util.Arrays;
import java.util.List;
import java.util.Set;
import java.util.TreeSet;
import java.util.stream.Collectors;

/** The face is the document's and no more; and what of LANGUAGE.md can be seen from the text of the class. */
public final class FaceTest {
    private static final Checks CHECKS = new Checks("FaceTest");

    public static void main(String[] args) throws IOException {
        face(Files.readAllLines(Path.of(System.getProperty("shared"), "DOC.md")));
        language(Files.readString(Path.of(System.getProperty("main"))));
        CHECKS.finish();
    }

    private static void face(List<String> document) {
        Set<String> due = new TreeSet<>();
        for (String line : document) {
            if (line.startsWith("    public ")) {
                due.add(line.strip());
            }
        }
        Set<String> got = new TreeSet<>();
        Set<String> shown = new TreeSet<>();
        Set<String> hidden = new TreeSet<>();
        for (Constructor<?> made : FormulaHouse.class.getDeclaredConstructors()) {
            got.add(Modifier.toString(made.getModifiers()) + " FormulaHouse();");
            CHECKS.due("parameters of the constructor", made.getParameterCount(), 0);
        }
        for (Method method : FormulaHouse.class.getDeclaredMethods()) {
            if (!Modifier.isPrivate(method.getModifiers())) {
                got.add(method.toString().replace("FormulaHouse.", ""));
                shown.add(method.getName());
            } else {
                hidden.add(method.getName());
            }
        }
        CHECKS.due("what the face has", withoutNames(got), withoutNames(due));
        hidden.retainAll(shown);
        CHECKS.due("private methods with a public one's name", hidden, Set.of());
        for (Field field : FormulaHouse.class.getDeclaredFields()) {
            CHECKS.due(field.getName() + " is private", Modifier.isPrivate(field.getModifiers()), true);
        }
        CHECKS.due("final", Modifier.isFinal(FormulaHouse.class.getModifiers()), true);
    }

    /** The document and the machine write a method differently: names of parameters, packages, spaces. */
    private static Set<String> withoutNames(Set<String> methods) {
        return methods.stream()
                .map(text -> text.replace("java.lang.", "").replaceAll("int [a-z]+([,)])", "int$1"))
                .map(text -> text.replaceAll("[ ;]", ""))
                .collect(Collectors.toCollection(TreeSet::new));
    }

    private static void language(String text) {
        for (String word : new String[] {"import ", "package ", "->", "::", "try ", "catch", "finally", "assert ",
            "synchronized", "Exact(", "System.", "hashCode", ".equals(", "toString", "@", "double", "float"}) {
            CHECKS.due("the class has no '" + word + "'", text.contains(word), false);
        }
        long classes = Arrays.stream(text.split("\n")).filter(line -> line.matches("    private .*class .*")).count();
        CHECKS.due("at most twelve classes", classes + 1 <= 12, true);
        CHECKS.due("only characters up to 255", text.chars().allMatch(c -> c < 256), true);
    }
}
