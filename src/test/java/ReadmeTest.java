import java.io.IOException;
import java.nio.file.Files;
import java.nio.file.Path;
import java.util.regex.Matcher;
import java.util.regex.Pattern;

/** Plays the example in README.md, whose calls have their answers behind them. */
public final class ReadmeTest {
    private static final Pattern EXAMPLE = Pattern.compile("```java\n(.*?)```", Pattern.DOTALL);
    private static final Pattern MADE = Pattern.compile("UnsaidVerdicts court = new UnsaidVerdicts\\(\\);");
    private static final Pattern TYPED =
        Pattern.compile("for \\(char c : \"([^\"]*)\"\\.toCharArray\\(\\)\\) court\\.append\\(c\\);");
    private static final Pattern CALLED = Pattern.compile("court\\.(\\w+)\\((.*?)\\); *// (throws )?([^,:]+).*");

    private final Runs runs = new Runs();

    public static void main(String[] args) throws IOException {
        ReadmeTest test = new ReadmeTest();
        test.play(Files.readString(Path.of(args.length == 0 ? "." : args[0], "README.md")));
        System.out.println(test.runs.played + " answers of the example, " + test.runs.wrong + " not as due");
        System.exit(test.runs.wrong == 0 ? 0 : 1);
    }

    private void play(String readme) {
        Matcher example = EXAMPLE.matcher(readme);
        if (!example.find()) {
            runs.wrong("README.md has no example");
            return;
        }
        for (String line : example.group(1).split("\n")) {
            playLine(line);
        }
    }

    private void playLine(String line) {
        Matcher typed = TYPED.matcher(line);
        Matcher called = CALLED.matcher(line);
        if (MADE.matcher(line).matches()) {
            runs.startAnew();
        } else if (typed.matches()) {
            runs.playLine(line, "type " + typed.group(1));
        } else if (called.matches()) {
            String call = (called.group(1) + " " + called.group(2).replace(",", "")).strip();
            runs.playLine(line, call + " = " + (called.group(3) == null ? "" : "!") + called.group(4));
        } else {
            runs.wrong("neither a call nor its answer: " + line);
        }
    }
}
