import java.io.IOException;
import java.nio.charset.StandardCharsets;
import java.nio.file.Files;
import java.nio.file.Path;
import java.util.Map;
import java.util.TreeMap;
import java.util.TreeSet;
import java.util.regex.Matcher;
import java.util.regex.Pattern;

/**
 * Runs tests that each bear the name of a sentence (or of the part of it that names a boundary case), and of the section
 * of the document in which it stands. A test also fails if its sentence does not stand there, so that no name goes stale.
 */
final class Sentences {
    private static final String INTRODUCTION = "What it is";
    private static final int PROMISES = 55;
    private static final Pattern HEADING = Pattern.compile("## (Promise \\d+|.*?)(: .*)?");
    private static final Pattern TERM = Pattern.compile("(\\d)\\. [A-Z].*");

    private final Check check;
    /** Each section by its name, on one line; none at all if the document can't be read. */
    private final Map<String, String> sections = new TreeMap<>();
    private final TreeSet<Integer> promised = new TreeSet<>();

    Sentences(Check check, String document) {
        this.check = check;
        Path path = Path.of(document);
        if (Files.isReadable(path)) {
            readSections(path);
        } else {
            System.out.println("no document " + document + ": sentences are not looked up");
        }
    }

    void introduction(String sentence, Check.Test body) {
        test(INTRODUCTION, sentence, body);
    }

    void term(int number, String sentence, Check.Test body) {
        test("Terms " + number, sentence, body);
    }

    void promise(int number, String sentence, Check.Test body) {
        promised.add(number);
        test("Promise " + number, sentence, body);
    }

    /** Each promise has a test of its own at least. */
    void finish() {
        check.test("each promise has a sentence that is tested", done -> {
            for (int number = 1; number <= PROMISES; number++) {
                done.same("promise " + number, promised.contains(number), true);
            }
        });
    }

    private void test(String section, String sentence, Check.Test body) {
        check.test(section + ": " + sentence, done -> {
            if (!sections.isEmpty() && !sections.getOrDefault(section, "").contains(sentence)) {
                done.tell("this does not stand in the section " + section + " of the document");
            }
            body.run(done);
        });
    }

    private void readSections(Path path) {
        String section = "";
        for (String line : linesOf(path)) {
            Matcher heading = HEADING.matcher(line);
            Matcher term = TERM.matcher(line);
            if (heading.matches()) {
                section = heading.group(1);
            } else if (section.startsWith("Terms") && term.matches()) {
                section = "Terms " + term.group(1);
            }
            sections.merge(section, line, (before, more) -> before + " " + more);
        }
    }

    private static Iterable<String> linesOf(Path path) {
        try {
            return Files.readAllLines(path, StandardCharsets.UTF_8);
        } catch (IOException failed) {
            throw new IllegalStateException(failed);
        }
    }
}
