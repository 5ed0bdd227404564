import java.io.IOException;
import java.nio.file.DirectoryStream;
import java.nio.file.Files;
import java.nio.file.Path;
import java.util.List;
import java.util.TreeSet;

/**
 * Plays the runs under src/test/runs, a file for each promise. A line of a run is a call and its due answer behind
 * " = "; README.md tells the other lines.
 */
public final class PromisesTest {
    private static final int PROMISES = 38;

    private int wrong = 0;
    private int played = 0;
    private UnsaidVerdicts x;
    private String place = "";

    public static void main(String[] args) throws IOException {
        Path runs = Path.of(args.length == 0 ? "." : args[0], "src/test/runs");
        PromisesTest test = new PromisesTest();
        TreeSet<Path> files = new TreeSet<>();
        try (DirectoryStream<Path> found = Files.newDirectoryStream(runs, "*.txt")) {
            found.forEach(files::add);
        }
        for (int promise = 1; promise <= PROMISES; promise++) {
            String start = String.format("%02d-", promise);
            if (files.stream().noneMatch(file -> file.getFileName().toString().startsWith(start))) {
                test.wrong("there is no run for promise " + promise);
            }
        }
        for (Path file : files) {
            test.playFile(file);
        }
        System.out.println(test.played + " answers, " + test.wrong + " not as due");
        System.exit(test.wrong == 0 ? 0 : 1);
    }

    private void wrong(String what) {
        wrong++;
        System.out.println(what);
    }

    private void playFile(Path file) throws IOException {
        List<String> lines = Files.readAllLines(file);
        x = new UnsaidVerdicts();
        for (int k = 0; k < lines.size(); k++) {
            place = file.getFileName() + ":" + (k + 1);
            String line = lines.get(k);
            if (!line.isBlank() && !line.startsWith("#")) {
                playLine(line);
            }
        }
    }

    private void playLine(String line) {
        String first = line.split(" ")[0];
        String rest = line.length() > first.length() ? line.substring(first.length() + 1) : "";
        switch (first) {
            case "new" -> x = new UnsaidVerdicts();
            case "times" -> playOften(rest);
            case "type" -> type(rest);
            case "reads" -> due("the line", written(), rest);
            default -> playDue(line);
        }
    }

    /** Plays "N call", whose answers are told elsewhere. */
    private void playOften(String rest) {
        String[] parts = rest.split(" ", 2);
        for (int k = Integer.parseInt(parts[0]); k > 0; k--) {
            Calls.answer(x, parts[1]);
        }
    }

    private void type(String text) {
        for (char c : text.toCharArray()) {
            x.append(c);
        }
    }

    private String written() {
        StringBuilder line = new StringBuilder();
        for (int k = 0; k < 1000; k++) {
            try {
                line.append(x.character(k));
            } catch (IndexOutOfBoundsException e) {
                break;
            }
        }
        return line.toString();
    }

    private void playDue(String line) {
        int split = line.lastIndexOf(" = ");
        if (split < 0) {
            wrong(place + ": no answer is told: " + line);
            return;
        }
        String call = line.substring(0, split);
        due(call, Calls.answer(x, call), line.substring(split + 3));
    }

    private void due(String call, String got, String want) {
        played++;
        if (!got.equals(want)) {
            wrong(place + ": " + call + " answered " + got + ", due is " + want);
        }
    }
}
