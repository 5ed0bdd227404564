import java.util.ArrayList;
import java.util.List;

/** Plays many long runs on the class and on SlowCourt, and compares every answer. The runs are always the same. */
public final class ModelTest {
    private static final int RUNS = 1500;
    private static final int CALLS = 512;
    private static final int KINDS = 4;
    private static final String[] CHANGES = {"call", "vote", "unsay", "appeal"};
    private static final int[] ODD = {-1, -2147483648, 2147483647, 100, 60, 12, 9, 10, 31, 32};
    private static final String LETTERS = "jurocaselvtnyphigk ;-0123456789@";

    private long seed;

    public static void main(String[] args) {
        int wrong = 0;
        for (int run = 0; run < RUNS && wrong < 5; run++) {
            wrong += new ModelTest(run).play(run) ? 0 : 1;
        }
        System.out.println(wrong == 0 ? "all answers are alike" : wrong + " runs differ");
        System.exit(wrong == 0 ? 0 : 1);
    }

    private ModelTest(int run) {
        seed = run * 7919L + 12345;
    }

    /** A row of numbers that is always the same for the same run. */
    private int next(int bound) {
        seed = seed * 6364136223846793005L + 1442695040888963407L;
        return (int) ((seed >>> 33) % bound);
    }

    private boolean play(int run) {
        UnsaidVerdicts x = new UnsaidVerdicts();
        SlowCourt slow = new SlowCourt();
        List<String> played = new ArrayList<>();
        int kind = run % KINDS;
        // without a full court at first, most changes of most runs would be of cases that are not there
        boolean isFull = run / KINDS % 2 == 1;
        while (played.size() < CALLS) {
            for (String call : isFull && played.isEmpty() ? opening() : nextCalls(kind)) {
                if (played.size() == CALLS) {
                    break;
                }
                played.add(call);
                String got = Calls.answer(x, call);
                String want = slow.answer(call);
                if (!got.equals(want)) {
                    System.out.println("run " + run + ": " + call + " answered " + got + ", due is " + want + ", after "
                        + played.subList(Math.max(0, played.size() - 60), played.size() - 1));
                    return false;
                }
            }
        }
        return true;
    }

    private List<String> opening() {
        List<String> calls = new ArrayList<>();
        for (int k = 4 + next(6); k > 0; k--) {
            calls.add("juror " + (next(19) - 9) + " " + next(10));
        }
        int cases = 3 + next(8);
        for (int k = 0; k < cases; k++) {
            calls.add("bring " + (30 + next(41)) + " " + next(100));
            calls.add("call " + k);
        }
        calls.add("save");
        return calls;
    }

    /** Some runs are mostly changes, some mostly questions, some mostly texts. */
    private List<String> nextCalls(int kind) {
        int dice = next(100);
        if (kind == 3 && dice < 35 || dice < 3) {
            return text();
        }
        if (dice < (kind == 1 ? 30 : 60)) {
            return List.of(change());
        }
        if (dice < 64) {
            return List.of(next(3) > 0 ? "undo" : next(3) > 0 ? "save" : "restore");
        }
        if (dice < 68) {
            List<String> calls = new ArrayList<>();
            calls.add(next(4) == 0 ? "rollLine" : "line " + number(11));
            for (int k = 0; k < 17; k++) {
                calls.add("character " + k);
            }
            return calls;
        }
        return List.of(question());
    }

    private int number(int bound) {
        return next(40) == 0 ? ODD[next(ODD.length)] : next(bound);
    }

    private String change() {
        int dice = next(100);
        if (dice < 10) {
            return "juror " + (next(30) == 0 ? number(30) : next(19) - 9) + " " + number(10);
        }
        if (dice < 22) {
            return "bring " + (next(3) == 0 ? number(103) : 30 + next(41)) + " " + (next(2) == 0 ? number(101) : next(9));
        }
        if (dice < 80) {
            return CHANGES[next(4)] + " " + number(10);
        }
        return dice < 83 ? "clerk" : dice < 85 ? "rolled" : "night";
    }

    private String question() {
        String[] all = {
            "jurorOf " + number(9) + " " + number(5), "caseOf " + number(10) + " " + number(8),
            "voteOf " + number(9) + " " + number(10), "wouldBe " + number(10) + " " + (next(2) == 0),
            "load " + number(9) + " " + (next(2) == 0), "callable " + number(9), "thoughts " + number(10),
            "isOn " + number(9) + " " + number(10), "roll " + number(6) + " " + (next(2) == 0), "rolled",
            "wouldTake " + number(10), "overdue", "termFrom " + number(20), "finalIn " + number(10),
            "doubtful " + number(9), "character " + number(20), "errorPosition", "refusal " + (next(2) == 0),
            "account " + number(12), "isWell", "meanLeaning", "unsaidShare", "append " + next(128)};
        return all[next(all.length)];
    }

    /** A text of some orders, of which some have an error somewhere. */
    private List<String> text() {
        StringBuilder text = new StringBuilder();
        int orders = 1 + next(7);
        for (int k = 0; k < orders; k++) {
            text.append(k == 0 ? "" : ";").append(order());
        }
        int dice = next(10);
        if (dice < 2 && text.length() > 0) {
            text.setCharAt(next(text.length()), LETTERS.charAt(next(LETTERS.length())));
        } else if (dice == 2) {
            text.setLength(next(text.length()));
        } else if (dice == 3) {
            text.insert(next(text.length()), LETTERS.charAt(next(LETTERS.length())));
        }
        List<String> calls = new ArrayList<>();
        for (int k = 0; k < text.length(); k++) {
            calls.add("append " + (int) text.charAt(k));
        }
        calls.add("run");
        calls.add("errorPosition");
        calls.add("refusal " + (next(2) == 0));
        return calls;
    }

    private String order() {
        int dice = next(20);
        if (dice < 3) {
            return "juror " + (next(19) - 9) + " " + next(10);
        }
        if (dice < 6) {
            return "case " + (next(9) == 0 ? next(1000) : 30 + next(41)) + " " + next(20);
        }
        return dice < 16 ? CHANGES[next(4)] + " " + next(5) : dice == 16 ? "clerk" : "night";
    }
}
