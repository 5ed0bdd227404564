import java.io.IOException;
import java.nio.file.DirectoryStream;
import java.nio.file.Files;
import java.nio.file.Path;
import java.util.List;
import java.util.TreeSet;

/** Plays the runs under src/test/runs, a file for each promise. */
public final class PromisesTest {
    private static final int PROMISES = 38;

    private PromisesTest() {
    }

    public static void main(String[] args) throws IOException {
        Path place = Path.of(args.length == 0 ? "." : args[0], "src/test/runs");
        Runs runs = new Runs();
        TreeSet<Path> files = filesIn(place);
        for (int promise = 1; promise <= PROMISES; promise++) {
            String start = String.format("%02d-", promise);
            if (files.stream().noneMatch(file -> file.getFileName().toString().startsWith(start))) {
                runs.wrong("there is no run for promise " + promise);
            }
        }
        for (Path file : files) {
            playFile(runs, file);
        }
        System.out.println(runs.played + " answers, " + runs.wrong + " not as due");
        System.exit(runs.wrong == 0 ? 0 : 1);
    }

    static TreeSet<Path> filesIn(Path place) throws IOException {
        TreeSet<Path> files = new TreeSet<>();
        try (DirectoryStream<Path> found = Files.newDirectoryStream(place, "*.txt")) {
            found.forEach(files::add);
        }
        return files;
    }

    private static void playFile(Runs runs, Path file) throws IOException {
        List<String> lines = Files.readAllLines(file);
        runs.startAnew();
        for (int k = 0; k < lines.size(); k++) {
            runs.playLine(file.getFileName() + ":" + (k + 1), lines.get(k));
        }
    }
}
