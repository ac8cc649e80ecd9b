import java.io.IOException;
import java.nio.file.Files;
import java.nio.file.Path;
import java.util.LinkedHashMap;
import java.util.Map;

/** The document, read from its file, and the tests that quote its words. */
final class Doc {
    private static final Path FILE = Path.of("..", "shared", "DOC.md");

    private static final Map<String, String> said = new LinkedHashMap<>();
    private static final Map<String, String> untested = new LinkedHashMap<>();

    private Doc() {
    }

    /**
     * Keeps the terms under their headings in capitals, each promise under "promise" and its number, and what the
     * interface says ahead of the calls that change nothing under "what would be".
     */
    static void read() throws IOException {
        if (!Files.exists(FILE)) {
            System.out.println("no " + FILE + ": the sentences are tested, but not compared with it");
            return;
        }
        String section = "";
        for (String line : Files.readAllLines(FILE)) {
            section = sectionFrom(line, section);
            if (!section.isEmpty() && !line.equals(section) && !line.startsWith("## ")) {
                String words = line.replaceFirst("^`[^`]*`: ", "").replaceFirst("^Ahead of .* ---- what would be; ", "");
                said.merge(section, words, (before, more) -> before + " " + more);
            }
        }
        said.replaceAll((name, words) -> plain(words));
        untested.putAll(said);
    }

    private static String sectionFrom(String line, String section) {
        if (line.startsWith("## Promise ")) {
            return line.substring(3, line.indexOf(':')).toLowerCase();
        }
        if (line.startsWith("## ") || line.startsWith("Ahead of ")) {
            return line.contains(" ---- what would be; ") ? "what would be" : "";
        }
        if (line.startsWith("The constants: ")) {
            return "constants";
        }
        return line.matches("[A-Z][A-Z ]+") ? line : section;
    }

    private static String plain(String words) {
        return words.replaceAll("\\s+", " ").strip();
    }

    static void promise(int number, String words, Runnable test) {
        says("promise " + number, words, test);
    }

    /** Runs a test of words that must stand in a section of the document. */
    static void says(String section, String words, Runnable test) {
        Check.about(section + ": " + words);
        if (!said.isEmpty() && !said.getOrDefault(section, "").contains(words)) {
            Check.fail("the document does not say this");
        }
        untested.computeIfPresent(section, (name, rest) -> rest.replace(words, "|"));
        int before = Check.made();
        try {
            test.run();
        } catch (RuntimeException e) {
            Check.fail("the test ended with " + e);
            e.printStackTrace(System.out);
        }
        if (Check.made() == before) {
            Check.fail("the test checks nothing");
        }
        Check.about("");
    }

    /** Every word of the terms and the promises must have been quoted by a test. */
    static void everythingIsTested() {
        if (said.isEmpty()) {
            return;
        }
        Check.same("sections", said.size(), 6 + 2 + 43);
        untested.forEach((name, rest) -> Check.same("words without a test in " + name,
                rest.matches(".*[A-Za-z].*") ? rest : "none", "none"));
    }
}
