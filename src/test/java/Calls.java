import java.util.function.Supplier;

/** Plays calls that are told in words, as "caseOf 0 2", on an object, and tells the answers in words. */
final class Calls {
    private Calls() {
    }

    /** Returns the answer as a text; of an exception "!" and its very class, so that a subclass is another answer. */
    static String answer(UnsaidVerdicts x, String call) {
        String[] words = call.split(" ");
        return told(() -> play(x, words));
    }

    static String told(Supplier<Object> call) {
        try {
            return String.valueOf(call.get());
        } catch (RuntimeException e) {
            return "!" + e.getClass().getSimpleName();
        }
    }

    private static int number(String[] words, int place) {
        return Integer.parseInt(words[place]);
    }

    private static boolean truth(String[] words, int place) {
        if (!words[place].equals("true") && !words[place].equals("false")) {
            throw new Error("neither true nor false: " + words[place]);
        }
        return words[place].equals("true");
    }

    private static Object play(UnsaidVerdicts x, String[] w) {
        return switch (w[0]) {
            case "juror" -> x.juror(number(w, 1), number(w, 2));
            case "bring" -> x.bring(number(w, 1), number(w, 2));
            case "call" -> x.call(number(w, 1));
            case "vote" -> x.vote(number(w, 1));
            case "unsay" -> x.unsay(number(w, 1));
            case "appeal" -> x.appeal(number(w, 1));
            case "clerk" -> x.clerk();
            case "night" -> x.night();
            case "jurorOf" -> x.jurorOf(number(w, 1), number(w, 2));
            case "caseOf" -> x.caseOf(number(w, 1), number(w, 2));
            case "voteOf" -> x.voteOf(number(w, 1), number(w, 2));
            case "wouldBe" -> x.wouldBe(number(w, 1), truth(w, 2));
            case "load" -> x.load(number(w, 1), truth(w, 2));
            case "callable" -> x.callable(number(w, 1));
            case "thoughts" -> x.thoughts(number(w, 1));
            case "isOn" -> x.isOn(number(w, 1), number(w, 2));
            case "roll" -> x.roll(number(w, 1), truth(w, 2));
            case "rolled" -> x.rolled();
            case "wouldTake" -> x.wouldTake(number(w, 1));
            case "overdue" -> x.overdue();
            case "termFrom" -> x.termFrom(number(w, 1));
            case "finalIn" -> x.finalIn(number(w, 1));
            case "doubtful" -> x.doubtful(number(w, 1));
            case "line" -> x.line(number(w, 1));
            case "rollLine" -> x.rollLine();
            case "character" -> x.character(number(w, 1));
            case "append" -> x.append((char) number(w, 1));
            case "run" -> x.run();
            case "errorPosition" -> x.errorPosition();
            case "refusal" -> x.refusal(truth(w, 1));
            case "account" -> x.account(number(w, 1));
            case "isWell" -> x.isWell();
            case "meanLeaning" -> x.meanLeaning();
            case "unsaidShare" -> x.unsaidShare();
            case "undo" -> x.undo();
            case "save" -> x.save();
            case "restore" -> x.restore();
            default -> throw new Error("no such call: " + w[0]);
        };
    }
}
