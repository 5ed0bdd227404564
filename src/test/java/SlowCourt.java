import java.util.ArrayDeque;
import java.util.ArrayList;
import java.util.Comparator;
import java.util.Deque;
import java.util.List;
import java.util.NoSuchElementException;
import java.util.Set;
import java.util.TreeSet;
import java.util.regex.Matcher;
import java.util.regex.Pattern;
import java.util.stream.Collectors;

/**
 * The document told anew and slowly, with nothing of the class in it: lists, sorting, whole copies and a regular
 * expression for texts. ModelTest plays the same calls on both.
 */
final class SlowCourt {
    private static final String ORDER =
        "(?:juror -?[0-9] [0-9]|case [0-9]{1,3} [0-9]{1,2}|(?:call|vote|unsay|appeal) [0-9]|clerk|night)";
    private static final Pattern TEXT = Pattern.compile(ORDER + "(?:;" + ORDER + ")*");

    private static final Set<String> CHANGES =
        Set.of("juror", "bring", "call", "vote", "unsay", "appeal", "clerk", "night", "run");

    private static final class Juror {
        int number, leaning, doubt, votes, lost;

        Juror copy() {
            Juror j = new Juror();
            j.number = number;
            j.leaning = leaning;
            j.doubt = doubt;
            j.votes = votes;
            j.lost = lost;
            return j;
        }

        boolean isFor(Case c) {
            return c.merit + leaning * 5 - doubt > 49;
        }

        void think(Case c) {
            leaning = isFor(c) ? Math.max(-9, leaning - 1) : Math.min(9, leaning + 1);
        }
    }

    private static final class Case {
        int number, merit, term, verdict, saidIn = -1, closedIn = -1, unsaid, appeals;
        TreeSet<Integer> panel = new TreeSet<>();

        Case copy() {
            Case c = new Case();
            c.number = number;
            c.merit = merit;
            c.term = term;
            c.verdict = verdict;
            c.saidIn = saidIn;
            c.closedIn = closedIn;
            c.unsaid = unsaid;
            c.appeals = appeals;
            c.panel = new TreeSet<>(panel);
            return c;
        }

        int set() {
            return panel.stream().mapToInt(j -> 1 << j).sum();
        }
    }

    private static final class World {
        List<Juror> jurors = new ArrayList<>();
        List<Case> cases = new ArrayList<>();
        int clerks = 1, night, said;

        World copy() {
            World w = new World();
            jurors.forEach(j -> w.jurors.add(j.copy()));
            cases.forEach(c -> w.cases.add(c.copy()));
            w.clerks = clerks;
            w.night = night;
            w.said = said;
            return w;
        }

        Juror juror(int number) {
            if (number < 0 || number >= jurors.size()) {
                throw new IndexOutOfBoundsException();
            }
            return jurors.get(number);
        }

        Case theCase(int number) {
            if (number < 0 || number >= cases.size()) {
                throw new IndexOutOfBoundsException();
            }
            return cases.get(number);
        }

        int load(Juror j) {
            return (int) cases.stream().filter(c -> c.closedIn < 0 && c.panel.contains(j.number)).count();
        }

        List<Juror> callables() {
            return jurors.stream().filter(j -> load(j) < 3)
                .sorted(Comparator.comparingInt(this::load).thenComparingInt(j -> j.doubt)).collect(Collectors.toList());
        }

        List<Case> roll() {
            return cases.stream().filter(c -> !c.panel.isEmpty() && c.verdict == 0)
                .sorted(Comparator.<Case>comparingInt(c -> c.term).thenComparingInt(c -> c.merit))
                .collect(Collectors.toList());
        }

        int verdict(Case c) {
            return c.panel.stream().filter(j -> jurors.get(j).isFor(c)).count() > 1 ? 1 : 2;
        }

        int say(Case c) {
            int verdict = verdict(c);
            for (int number : c.panel) {
                Juror j = jurors.get(number);
                j.votes++;
                if (j.isFor(c) == (verdict == 1)) {
                    j.doubt = j.doubt == 0 ? 0 : j.doubt - 1;
                } else {
                    j.doubt = j.doubt == 9 ? 9 : j.doubt + 1;
                    j.lost++;
                }
            }
            c.verdict = verdict;
            c.saidIn = night;
            said++;
            return verdict;
        }
    }

    private World world = new World();
    private World snapshot;
    private final Deque<World> past = new ArrayDeque<>();
    private final StringBuilder input = new StringBuilder();
    private String line = "";
    private int errorPosition = -1;
    private int reason;
    private int detail;

    String answer(String call) {
        String[] words = call.split(" ");
        return Calls.told(() -> play(words));
    }

    private Object play(String[] w) {
        if (CHANGES.contains(w[0])) {
            World before = world.copy();
            try {
                Object answer = w[0].equals("run") ? run() : change(w);
                past.addLast(before);
                if (past.size() > 8) {
                    past.removeFirst();
                }
                return answer;
            } catch (RuntimeException e) {
                world = before;
                throw e;
            }
        }
        return ask(w);
    }

    private int refuse(int newReason, int newDetail) {
        reason = newReason;
        detail = newDetail;
        throw new UnsupportedOperationException();
    }

    private static void range(int number, int least, int most) {
        if (number < least || number > most) {
            throw new IllegalArgumentException();
        }
    }

    private int change(String[] w) {
        int a = w.length > 1 ? Integer.parseInt(w[1]) : 0;
        int b = w.length > 2 ? Integer.parseInt(w[2]) : 0;
        switch (w[0]) {
            case "juror": {
                range(a, -9, 9);
                range(b, 0, 9);
                if (world.jurors.size() == 9) {
                    refuse(1, 9);
                }
                Juror j = new Juror();
                j.number = world.jurors.size();
                j.leaning = a;
                j.doubt = b;
                world.jurors.add(j);
                return j.number;
            }
            case "bring":
            case "case": {
                range(a, 0, 100);
                range(b, 0, 99);
                if (world.cases.size() == 10) {
                    refuse(1, 10);
                }
                Case c = new Case();
                c.number = world.cases.size();
                c.merit = a;
                c.term = b;
                world.cases.add(c);
                return c.number;
            }
            case "call":
                return call(world.theCase(a));
            case "vote":
                return vote(world.theCase(a));
            case "unsay":
                return unsay(world.theCase(a));
            case "appeal":
                return appeal(world.theCase(a));
            case "clerk":
                return world.clerks == 4 ? refuse(1, 4) : ++world.clerks;
            case "night":
                return night();
            default:
                throw new Error(w[0]);
        }
    }

    private int call(Case c) {
        if (!c.panel.isEmpty()) {
            refuse(2, world.load(world.jurors.get(c.panel.first())));
        }
        List<Juror> callables = world.callables();
        if (callables.size() < 3) {
            refuse(3, callables.size());
        }
        callables.subList(0, 3).forEach(j -> c.panel.add(j.number));
        return c.set();
    }

    private int vote(Case c) {
        if (c.panel.isEmpty()) {
            refuse(4, c.term);
        }
        if (c.closedIn >= 0) {
            refuse(6, c.closedIn);
        }
        if (c.verdict != 0) {
            refuse(2, c.verdict);
        }
        return world.say(c);
    }

    private void refuseUnsaidOrFinal(Case c) {
        if (c.verdict == 0) {
            refuse(5, c.unsaid);
        }
        if (c.closedIn >= 0) {
            refuse(6, c.closedIn);
        }
    }

    private int unsay(Case c) {
        refuseUnsaidOrFinal(c);
        c.verdict = 0;
        c.saidIn = -1;
        c.unsaid++;
        int changed = 0;
        for (int number : c.panel) {
            Juror j = world.jurors.get(number);
            int before = j.leaning;
            j.think(c);
            changed += Math.abs(j.leaning - before);
        }
        return changed;
    }

    private int appeal(Case c) {
        refuseUnsaidOrFinal(c);
        if (c.appeals == 2) {
            refuse(7, c.verdict);
        }
        List<Juror> others = world.callables();
        others.removeIf(j -> c.panel.contains(j.number));
        if (others.isEmpty()) {
            refuse(3, 0);
        }
        int leaving = c.panel.stream().max(Comparator.<Integer>comparingInt(j -> world.jurors.get(j).doubt)
            .thenComparing(Comparator.reverseOrder())).get();
        c.panel.remove(leaving);
        c.panel.add(others.get(0).number);
        c.appeals++;
        c.term = c.term > 96 ? 99 : c.term + 3;
        return world.say(c);
    }

    private int night() {
        if (world.night == 99) {
            refuse(8, world.roll().size());
        }
        world.night++;
        for (Case c : world.cases) {
            if (c.verdict != 0 && c.closedIn < 0 && world.night - c.saidIn >= 4) {
                c.closedIn = world.night;
            }
        }
        List<Case> taken = world.roll().stream().limit(world.clerks).collect(Collectors.toList());
        taken.forEach(world::say);
        return taken.size();
    }

    private static int errorOf(String text) {
        for (int end = 1; end <= text.length(); end++) {
            Matcher m = TEXT.matcher(text.substring(0, end));
            if (!m.matches() && !m.hitEnd()) {
                return end - 1;
            }
        }
        return TEXT.matcher(text).matches() ? -1 : text.length();
    }

    private int run() {
        String text = input.toString();
        input.setLength(0);
        errorPosition = errorOf(text);
        if (errorPosition >= 0) {
            throw new IllegalArgumentException();
        }
        String[] orders = text.split(";");
        try {
            for (String order : orders) {
                change(order.split(" "));
            }
        } catch (IndexOutOfBoundsException e) {
            throw new IllegalArgumentException();
        }
        return orders.length;
    }

    private static <T> T at(List<T> list, int place) {
        if (place < 0 || place >= list.size()) {
            throw new NoSuchElementException();
        }
        return list.get(place);
    }

    private Case withPanel(int number) {
        Case c = world.theCase(number);
        if (c.panel.isEmpty()) {
            throw new NoSuchElementException();
        }
        return c;
    }

    private Object ask(String[] w) {
        int a = w.length > 1 && !w[1].endsWith("e") ? Integer.parseInt(w[1]) : 0;
        switch (w[0]) {
            case "jurorOf":
                return jurorOf(world.juror(a), Integer.parseInt(w[2]));
            case "caseOf":
                return caseOf(world.theCase(a), Integer.parseInt(w[2]));
            case "voteOf": {
                Juror j = world.juror(a);
                return j.isFor(world.theCase(Integer.parseInt(w[2]))) ? 1 : 2;
            }
            case "wouldBe":
                return world.verdict(withPanel(a));
            case "load":
                return world.load(world.juror(a));
            case "callable":
                return at(world.callables(), a).number;
            case "thoughts":
                withPanel(a);
                return thoughts(world.copy(), a);
            case "isOn": {
                Juror j = world.juror(a);
                return world.theCase(Integer.parseInt(w[2])).panel.contains(j.number);
            }
            case "roll":
                return at(world.roll(), a).number;
            case "rolled":
                return world.roll().size();
            case "wouldTake":
                return wouldTake(world.copy(), world.theCase(a));
            case "overdue":
                return (int) world.roll().stream().filter(c -> c.term < world.night).count();
            case "termFrom":
                range(a, 0, 99);
                return at(world.roll().stream().filter(c -> c.term >= a).collect(Collectors.toList()), 0).term;
            case "finalIn":
                return finalIn(world.theCase(a));
            case "doubtful":
                return at(world.jurors.stream()
                    .sorted(Comparator.<Juror>comparingInt(j -> -j.doubt).thenComparingInt(j -> -j.leaning))
                    .collect(Collectors.toList()), a).number;
            default:
                return askMore(w, a);
        }
    }

    private static int jurorOfNone() {
        throw new IllegalArgumentException();
    }

    private int jurorOf(Juror j, int what) {
        return what == 0 ? j.leaning : what == 1 ? j.doubt : what == 2 ? world.load(j) : what == 3 ? j.votes
            : what == 4 ? j.lost : jurorOfNone();
    }

    private static int caseOf(Case c, int what) {
        range(what, 0, 7);
        int[] all = {c.merit, c.term, c.set(), c.verdict, c.saidIn, c.closedIn < 0 ? 0 : 1, c.unsaid, c.appeals};
        return all[what];
    }

    private static int thoughts(World w, int number) {
        Case c = w.cases.get(number);
        int now = w.verdict(c);
        for (int k = 1; k <= 40; k++) {
            c.panel.forEach(j -> w.jurors.get(j).think(c));
            if (w.say(c) != now) {
                return k;
            }
        }
        return 0;
    }

    /** Lets nights go by on a copy until the case is taken. */
    private static int wouldTake(World w, Case c) {
        List<Integer> roll = w.roll().stream().map(r -> r.number).collect(Collectors.toList());
        for (int night = w.night + 1; night <= 99; night++) {
            for (int k = 0; k < w.clerks && !roll.isEmpty(); k++) {
                if (roll.remove(0) == c.number) {
                    return night;
                }
            }
        }
        throw new NoSuchElementException();
    }

    private static int finalIn(Case c) {
        if (c.verdict == 0) {
            throw new NoSuchElementException();
        }
        return c.closedIn < 0 ? c.saidIn + 4 : c.closedIn;
    }

    private Object askMore(String[] w, int a) {
        switch (w[0]) {
            case "line":
                line = lineOf(world.theCase(a));
                return line.length();
            case "rollLine":
                line = world.roll().stream().map(c -> String.valueOf(c.number)).collect(Collectors.joining(" "));
                return line.length();
            case "character":
                if (a < 0 || a >= line.length()) {
                    throw new IndexOutOfBoundsException();
                }
                return line.charAt(a);
            case "append":
                if (input.length() == 60) {
                    throw new IllegalStateException();
                }
                return input.append((char) a).length();
            case "errorPosition":
                return errorPosition;
            case "refusal":
                if (reason == 0) {
                    throw new NoSuchElementException();
                }
                return w[1].equals("true") ? detail : reason;
            case "account":
                return account(a);
            case "isWell":
                return true;
            case "meanLeaning":
                if (world.jurors.isEmpty()) {
                    throw new ArithmeticException();
                }
                return world.jurors.stream().mapToInt(j -> j.leaning).sum() / (double) world.jurors.size();
            case "unsaidShare":
                if (world.said == 0) {
                    throw new ArithmeticException();
                }
                return account(7) / (float) world.said;
            case "undo":
                if (past.isEmpty()) {
                    throw new IllegalStateException();
                }
                world = past.removeLast();
                return past.size();
            case "save":
                snapshot = world.copy();
                return world.cases.size();
            case "restore":
                if (snapshot == null) {
                    throw new IllegalStateException();
                }
                world = snapshot.copy();
                past.clear();
                return world.cases.size();
            default:
                throw new Error(w[0]);
        }
    }

    private static String lineOf(Case c) {
        String panel = c.panel.stream().map(String::valueOf).collect(Collectors.joining(",", "[", "]"));
        return c.number + ":" + c.merit + "@" + c.term + (c.panel.isEmpty() ? "" : panel)
            + (c.verdict == 0 ? "" : c.verdict == 1 ? "+" : "-") + (c.closedIn < 0 ? "" : "!");
    }

    private int account(int what) {
        range(what, 0, 11);
        int[] all = {
            world.jurors.size(), world.cases.size(), world.clerks, world.night,
            (int) world.cases.stream().filter(c -> c.panel.isEmpty()).count(),
            (int) world.cases.stream().filter(c -> c.closedIn >= 0).count(),
            world.said,
            world.cases.stream().mapToInt(c -> c.unsaid).sum(),
            world.cases.stream().mapToInt(c -> c.appeals).sum(),
            world.jurors.stream().mapToInt(j -> j.doubt).sum(),
            input.length(), past.size()};
        return all[what];
    }
}
