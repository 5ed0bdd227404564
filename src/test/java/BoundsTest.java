import java.io.IOException;
import java.nio.file.Files;
import java.nio.file.Path;
import java.util.ArrayList;
import java.util.LinkedHashMap;
import java.util.LinkedHashSet;
import java.util.List;
import java.util.Map;
import java.util.Set;

/**
 * Plays the runs under src/test/bounds. They stand behind the words of the document that they test; a sentence of the
 * document that has neither a run nor is told to name no bound is a fault.
 */
public final class BoundsTest {
    private static final List<String> LEFT_OUT = List.of("The public face", "Not promised");
    private static final int WORDS_OF_A_HEADING = 3;

    private final Runs runs = new Runs();
    private final Map<String, List<String>> chapters = new LinkedHashMap<>();
    private final Set<String> untold = new LinkedHashSet<>();
    private String chapter = "";
    private String said = "";
    private int playedBefore = 0;

    public static void main(String[] args) throws IOException {
        Path root = Path.of(args.length == 0 ? "." : args[0]);
        BoundsTest test = new BoundsTest();
        test.readDocument(Files.readString(root.resolve("../shared/DOC.md")));
        for (Path file : PromisesTest.filesIn(root.resolve("src/test/bounds"))) {
            List<String> lines = Files.readAllLines(file);
            for (int k = 0; k < lines.size(); k++) {
                test.playLine(file.getFileName() + ":" + (k + 1), lines.get(k));
            }
        }
        test.endSaid();
        test.untold.forEach(sentence -> test.runs.wrong("no run and no word about: " + sentence));
        System.out.println(test.runs.played + " answers at bounds, " + test.runs.wrong + " faults");
        System.exit(test.runs.wrong == 0 ? 0 : 1);
    }

    /** Keeps the sentences of each chapter, and of each parameter and exception in a chapter. */
    private void readDocument(String document) {
        for (String part : document.split("(?m)^## ")) {
            String[] titleAndText = part.split("\n", 2);
            String title = titleAndText[0].replaceAll(":.*", "");
            if (titleAndText.length < 2 || part.startsWith("# ") || LEFT_OUT.contains(title)) {
                continue;
            }
            List<String> sentences = new ArrayList<>();
            for (String paragraph : titleAndText[1].split("\n\n|\n(?=- )")) {
                String text = folded(paragraph).replaceAll("^(- )?`[^`]*`: ", "");
                sentences.addAll(List.of(text.split("(?<=\\.) (?=[A-Z])")));
            }
            sentences.removeIf(sentence -> sentence.split(" ").length <= WORDS_OF_A_HEADING);
            chapters.put(title, sentences);
            sentences.forEach(sentence -> untold.add(title + ": " + sentence));
        }
    }

    private static String folded(String text) {
        return text.replaceAll("\\s+", " ").strip();
    }

    private void playLine(String place, String line) {
        if (line.startsWith("at ")) {
            endSaid();
            chapter = line.substring(3);
            if (!chapters.containsKey(chapter)) {
                runs.wrong(place + ": the document has no chapter " + chapter);
            }
        } else if (line.startsWith("says ")) {
            endSaid();
            said = place;
            playedBefore = runs.played;
            runs.startAnew();
            tell(place, line.substring(5));
        } else if (line.startsWith("plain ")) {
            endSaid();
            tell(place, line.substring(6));
        } else {
            runs.playLine(place, line);
        }
    }

    private void endSaid() {
        if (!said.isEmpty() && runs.played == playedBefore) {
            runs.wrong(said + ": no answer is looked at");
        }
        said = "";
    }

    private void tell(String place, String words) {
        boolean isFound = false;
        for (String sentence : chapters.getOrDefault(chapter, List.of())) {
            if (sentence.contains(words) || words.contains(sentence)) {
                isFound = true;
                untold.remove(chapter + ": " + sentence);
            }
        }
        if (!isFound) {
            runs.wrong(place + ": " + chapter + " does not say: " + words);
        }
    }
}
