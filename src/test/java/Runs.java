/** Plays the lines of runs, which README.md tells, on an object of the class, and counts what is not as due. */
final class Runs {
    int wrong = 0;
    int played = 0;
    private UnsaidVerdicts x = new UnsaidVerdicts();
    private String place = "";

    void wrong(String what) {
        wrong++;
        System.out.println(what);
    }

    void startAnew() {
        x = new UnsaidVerdicts();
    }

    /** Plays a line, which stands at a place; an empty one and a comment are nothing. */
    void playLine(String where, String line) {
        place = where;
        if (line.isBlank() || line.startsWith("#")) {
            return;
        }
        String first = line.split(" ")[0];
        String rest = line.length() > first.length() ? line.substring(first.length() + 1) : "";
        switch (first) {
            case "new" -> startAnew();
            case "times" -> playOften(rest);
            case "type" -> type(rest);
            case "reads" -> due("the line", written(), rest);
            default -> playDue(line);
        }
    }

    /** Plays "N call / call ..", whose answers are told elsewhere. */
    private void playOften(String rest) {
        String[] parts = rest.split(" ", 2);
        String[] calls = parts[1].split(" / ");
        for (int k = Integer.parseInt(parts[0]); k > 0; k--) {
            for (String call : calls) {
                Calls.answer(x, call);
            }
        }
    }

    private void type(String text) {
        for (char c : text.toCharArray()) {
            x.append(c);
        }
    }

    private String written() {
        StringBuilder line = new StringBuilder();
        for (int k = 0; k < 1000; k++) {
            try {
                line.append(x.character(k));
            } catch (IndexOutOfBoundsException e) {
                break;
            }
        }
        return line.toString();
    }

    private void playDue(String line) {
        int split = line.lastIndexOf(" = ");
        if (split < 0) {
            wrong(place + ": no answer is told: " + line);
            return;
        }
        String call = line.substring(0, split);
        due(call, Calls.answer(x, call), line.substring(split + 3));
    }

    private void due(String call, String got, String want) {
        played++;
        if (!got.equals(want)) {
            wrong(place + ": " + call + " answered " + got + ", due is " + want);
        }
    }
}
