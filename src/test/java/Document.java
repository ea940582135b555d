import java.io.IOException;
import java.nio.file.Files;
import java.nio.file.Path;
import java.util.ArrayList;
import java.util.Comparator;
import java.util.LinkedHashMap;
import java.util.List;
import java.util.Map;

/** The document, and which of its words the tests have quoted: a sentence without a test is seen by that. */
final class Document {
    private final Checks checks;
    private final Map<String, String> sections = new LinkedHashMap<>();
    private final Map<String, List<String>> quotes = new LinkedHashMap<>();

    Document(Checks checks, Path file) throws IOException {
        this.checks = checks;
        String heading = "";
        for (String line : Files.readAllLines(file)) {
            if (line.startsWith("## ")) {
                heading = shortHeading(line.substring(3));
            } else {
                sections.merge(heading, withoutFace(line), (before, more) -> plain(before + " " + more));
            }
        }
    }

    /** "Promise 4: add" is called "Promise 4". */
    private static String shortHeading(String heading) {
        return heading.startsWith("Promise ") ? heading.replaceAll(":.*", "") : heading;
    }

    /** What a method looks like is FaceTest's. */
    private static String withoutFace(String line) {
        return line.replaceAll("^`[^`]*`: ", "");
    }

    private static String plain(String text) {
        return text.strip().replaceAll("\\s+", " ");
    }

    /** In their order, without the title above them. */
    List<String> headings() {
        return sections.keySet().stream().filter(heading -> !heading.isEmpty()).toList();
    }

    /** The checks that follow are on these words of a section. */
    void says(String heading, String words) {
        boolean there = sections.getOrDefault(heading, "").contains(plain(words));
        checks.due("the document says, in " + heading + ": " + words, there, true);
        quotes.computeIfAbsent(heading, unused -> new ArrayList<>()).add(plain(words));
    }

    /** All of a section's words have been quoted. */
    void isQuoted(String heading) {
        String left = sections.getOrDefault(heading, "no such section");
        List<String> longestFirst = new ArrayList<>(quotes.getOrDefault(heading, List.of()));
        longestFirst.sort(Comparator.comparing(String::length).reversed());
        for (String words : longestFirst) {
            left = left.replace(words, "");
        }
        checks.due("words of " + heading + " without a test", plain(left), "");
    }
}
