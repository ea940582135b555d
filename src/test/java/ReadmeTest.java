import java.io.File;
import java.io.IOException;
import java.lang.reflect.Method;
import java.lang.reflect.Modifier;
import java.nio.file.Files;
import java.nio.file.Path;
import java.util.List;

/** README.md: each line of its example answers what stands behind it; no call of the face and no test is missing. */
public final class ReadmeTest {
    private static final Checks CHECKS = new Checks("ReadmeTest");

    private final List<String> lines;
    private int read = 0;

    private ReadmeTest(List<String> lines) {
        this.lines = lines;
    }

    public static void main(String[] args) throws IOException {
        Path root = Path.of(System.getProperty("root"));
        List<String> lines = Files.readAllLines(root.resolve("README.md"));
        new ReadmeTest(lines).example();
        calls(lines);
        tests(String.join("\n", lines), root.resolve("src/test/java").toFile());
        CHECKS.finish();
    }

    private void example() {
        read = lines.indexOf("```java");
        next("FormulaHouse house = new FormulaHouse();");
        FormulaHouse house = new FormulaHouse();
        int x = house.letter();
        answered("int x = house.letter();", x);
        int four = house.number(8, 2);
        answered("int four = house.number(8, 2);", four);
        int f = house.less(house.times(x, x), four);
        answered("int f = house.less(house.times(x, x), four);", f);
        answered("house.degree(f);", house.degree(f));
        answered("house.at(f, 0, 0);", house.at(f, 0, 0));
        int s = house.where(f, 1);
        answered("int s = house.where(f, 1);", s);
        answered("house.pieces(s);", house.pieces(s));
        answered("house.end(s, 0, 0, 0);", house.end(s, 0, 0, 0));
        answered("house.end(s, 0, 0, 1);", house.end(s, 0, 0, 1));
        answered("house.sign(f);", house.sign(f));
        answered("house.assume(s);", house.assume(s));
        answered("house.sign(f);", house.sign(f));
        next("```");
    }

    private String next(String due) {
        read++;
        String line = read < lines.size() ? lines.get(read) : "";
        CHECKS.due("line " + (read + 1) + " of README.md", line.replaceAll(" *//.*", ""), due);
        return line;
    }

    /** The answer stands behind the call, up to a comma. */
    private void answered(String call, Object answer) {
        String told = next(call).replaceAll(".*// ", "").replaceAll(",.*", "");
        CHECKS.due("what README.md tells of " + call, told, answer.toString());
    }

    private static void calls(List<String> lines) {
        for (Method method : FormulaHouse.class.getDeclaredMethods()) {
            if (Modifier.isPublic(method.getModifiers())) {
                String call = "`" + method.getName() + "(";
                long rows = lines.stream().filter(line -> line.startsWith("| `") && line.contains(call)).count();
                CHECKS.due("rows of README.md with " + call, rows, 1L);
            }
        }
    }

    private static void tests(String text, File folder) {
        String[] names = folder.list((in, name) -> name.endsWith("Test.java"));
        CHECKS.due("tests are there", names != null && names.length > 0, true);
        for (String name : names == null ? new String[0] : names) {
            String row = "| `" + name.replace(".java", "") + "` |";
            CHECKS.due("README.md has " + row, text.contains(row), true);
        }
    }
}
