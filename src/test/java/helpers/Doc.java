import java.io.IOException;
import java.nio.file.Files;
import java.nio.file.Path;
import java.util.ArrayList;
import java.util.List;
import java.util.Set;
import java.util.TreeSet;
import java.util.regex.Matcher;
import java.util.regex.Pattern;

/**
 * The sentences of ../shared/DOC.md. A test of a boundary names the sentence that it tests, and a sentence that must
 * have such a test and has none is told. A sentence is named by its place and by the words that it begins with.
 */
final class Doc {
    private static final Path FILE = Path.of("..", "shared", "DOC.md");
    private static final Pattern HEADED = Pattern.compile("([A-Z][a-z]+(?: [a-z]+)?)\\. (.*)");
    private static final String DESCRIPTION = "Description";

    private record Sentence(String place, String text) {
        String told() {
            return place + ": " + text;
        }
    }

    private static final List<Sentence> ALL = read();
    private static final Set<String> TESTED = new TreeSet<>();
    private static int answersBefore = 0;
    private static boolean isOpen = false;

    private Doc() {
    }

    /** What is checked from here on belongs to this sentence of a paragraph of the description. */
    static void says(String paragraph, String beginning) {
        endSentence();
        Set<String> found = find(paragraph, beginning);
        Check.about("");
        Check.due("sentences in " + paragraph + " that begin with: " + beginning, found.size(), 1);
        for (String told : found) {
            TESTED.add(told);
            Check.about("[" + told + "] ");
        }
        answersBefore = Check.looked();
        isOpen = true;
    }

    /** The same, of a promise. */
    static void says(int promise, String beginning) {
        says(place(promise), beginning);
    }

    /** The sentence that is this one, or all that begin so; what stands twice in one place is the same sentence. */
    private static Set<String> find(String place, String beginning) {
        Set<String> found = new TreeSet<>();
        for (Sentence one : ALL) {
            if (one.place.equals(place) && one.text.equals(beginning)) {
                return Set.of(one.told());
            }
            if (one.place.equals(place) && one.text.startsWith(beginning)) {
                found.add(one.told());
            }
        }
        return found;
    }

    /** Tells each sentence of these promises and paragraphs that must have a test, and has none. */
    static void allTested(int fromPromise, int toPromise, String... paragraphs) {
        Set<String> places = new TreeSet<>(List.of(paragraphs));
        for (int promise = fromPromise; promise <= toPromise; promise++) {
            places.add(place(promise));
        }
        allTested(places.toArray(new String[0]));
    }

    static void allTested(String... ofPlaces) {
        endSentence();
        Set<String> places = new TreeSet<>(List.of(ofPlaces));
        Set<String> found = new TreeSet<>();
        Check.about("");
        for (Sentence one : ALL) {
            if (places.contains(one.place)) {
                found.add(one.place);
                Check.due("tested: " + one.told(), TESTED.contains(one.told()) || !mustHaveTest(one.text), true);
            }
        }
        Check.due("places in the document", found, places);
    }

    private static void endSentence() {
        if (isOpen) {
            Check.due("answers were looked at", Check.looked() > answersBefore, true);
        }
        isOpen = false;
    }

    private static String place(int promise) {
        return "Promise " + promise;
    }

    /** A parameter or an answer without a number in its description has no boundary of its own. */
    private static boolean mustHaveTest(String text) {
        boolean isParameter = text.startsWith("- ");
        boolean isAnswer = text.startsWith("Returns ");
        return !isParameter && !isAnswer || text.matches(".*[0-9].*");
    }

    private static List<Sentence> read() {
        List<Sentence> all = new ArrayList<>();
        String section = "";
        StringBuilder paragraph = new StringBuilder();
        try {
            for (String line : Files.readAllLines(FILE)) {
                boolean begins = line.isBlank() || line.startsWith("#") || line.startsWith("- ");
                if (begins) {
                    addParagraph(all, section, paragraph.toString());
                    paragraph.setLength(0);
                }
                if (line.startsWith("#")) {
                    section = line.replaceFirst("^#+ ", "").replaceFirst("^(Promise [0-9]+):.*", "$1");
                } else if (!line.isBlank()) {
                    paragraph.append(paragraph.length() > 0 ? " " : "").append(line.strip());
                }
            }
        } catch (IOException e) {
            throw new IllegalStateException("no document at " + FILE, e);
        }
        addParagraph(all, section, paragraph.toString());
        return all;
    }

    private static void addParagraph(List<Sentence> all, String section, String paragraph) {
        if (paragraph.isEmpty() || paragraph.startsWith("`") || paragraph.startsWith("----")) {
            return;
        }
        String place = section;
        String text = paragraph.replace("`", "");
        Matcher headed = HEADED.matcher(text);
        if (section.equals(DESCRIPTION) && headed.matches()) {
            place = headed.group(1);
            text = headed.group(2);
        }
        for (String sentence : text.split("(?<=[.]) (?=[A-Z])")) {
            all.add(new Sentence(place, sentence));
        }
    }
}
