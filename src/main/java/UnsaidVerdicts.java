import java.util.NoSuchElementException;

/**
 * A court of second thoughts: jurors and cases, panels of three, verdicts that are said and unsaid, appeals, clerks
 * who take cases from the roll by night, orders in words, undo and a snapshot.
 *
 * The methods of the face look at what they are given, and throw ahead of all that they change: so there is nothing to
 * be caught, and the classes inside may trust their arguments.
 */
public final class UnsaidVerdicts {
    private static final int MOST_JURORS = 9;
    private static final int MOST_CASES = 10;
    private static final int MOST_CLERKS = 4;
    private static final int MOST_LEANING = 9;
    private static final int MOST_DOUBT = 9;
    private static final int MOST_LOAD = 3;
    private static final int MOST_MERIT = 100;
    private static final int LAST_NIGHT = 99;
    private static final int PANEL_SIZE = 3;
    private static final int MAJORITY = 2;
    private static final int ENOUGH_MERIT = 50;
    private static final int LEANING_WEIGHT = 5;
    private static final int NIGHTS_UNTIL_FINAL = 4;
    private static final int MOST_APPEALS = 2;
    private static final int NIGHTS_OF_APPEAL = 3;
    private static final int MOST_THOUGHTS = 40;
    private static final int MOST_CHARACTERS = 60;
    private static final int MOST_UNDONE = 8;

    private static final int NO_VERDICT = 0;
    private static final int FOR = 1;
    private static final int AGAINST = 2;
    private static final int NEVER = -1;
    private static final int NONE = -1;

    private static final int FULL = 1;
    private static final int ALREADY = 2;
    private static final int TOO_FEW = 3;
    private static final int NO_PANEL = 4;
    private static final int UNSAID = 5;
    private static final int FINAL = 6;
    private static final int APPEALED = 7;
    private static final int NO_MORE_NIGHTS = 8;

    private static final int JUROR = 0;
    private static final int CASE = 1;
    private static final int CALL = 2;
    private static final int VOTE = 3;
    private static final int UNSAY = 4;
    private static final int APPEAL = 5;
    private static final int CLERK = 6;
    private static final int NIGHT = 7;

    private static final int DONE = 0;
    private static final int WRONG = 1;
    private static final int REFUSED = 2;

    private final Court court = new Court();
    private final Court snapshot = new Court();
    private final History past = new History();
    private final Refusals refusals = new Refusals();
    private final Jurors imagined = new Jurors();
    private final Text input = new Text();
    private final Line written = new Line();
    private boolean hasSnapshot = false;
    private int errorAt = NONE;

    public UnsaidVerdicts() {
    }

    public int juror(int leaning, int doubt) throws IllegalArgumentException, UnsupportedOperationException {
        if (!isJurorRight(leaning, doubt)) {
            throw new IllegalArgumentException("a leaning is from -9 to 9, a doubt from 0 to 9");
        }
        if (refusals.ofJuror(court)) {
            throw new UnsupportedOperationException("there are 9 jurors");
        }
        past.keep(court);
        return court.jurors.add(leaning, doubt);
    }

    public int bring(int merit, int term) throws IllegalArgumentException, UnsupportedOperationException {
        if (!isCaseRight(merit, term)) {
            throw new IllegalArgumentException("a merit is from 0 to 100, a term from 0 to 99");
        }
        if (refusals.ofCase(court)) {
            throw new UnsupportedOperationException("there are 10 cases");
        }
        past.keep(court);
        return court.cases.add(merit, term);
    }

    public int call(int number) throws IndexOutOfBoundsException, UnsupportedOperationException {
        if (!court.cases.has(number)) {
            throw new IndexOutOfBoundsException("there is no such case");
        }
        if (refusals.ofCall(court, number)) {
            throw new UnsupportedOperationException("no panel can be called");
        }
        past.keep(court);
        return court.callPanel(number);
    }

    public int vote(int number) throws IndexOutOfBoundsException, UnsupportedOperationException {
        if (!court.cases.has(number)) {
            throw new IndexOutOfBoundsException("there is no such case");
        }
        if (refusals.ofVote(court, number)) {
            throw new UnsupportedOperationException("no verdict can be said");
        }
        past.keep(court);
        return court.sayVerdict(number);
    }

    public int unsay(int number) throws IndexOutOfBoundsException, UnsupportedOperationException {
        if (!court.cases.has(number)) {
            throw new IndexOutOfBoundsException("there is no such case");
        }
        if (refusals.ofUnsay(court, number)) {
            throw new UnsupportedOperationException("no verdict can be unsaid");
        }
        past.keep(court);
        return court.unsayVerdict(number);
    }

    public int appeal(int number) throws IndexOutOfBoundsException, UnsupportedOperationException {
        if (!court.cases.has(number)) {
            throw new IndexOutOfBoundsException("there is no such case");
        }
        if (refusals.ofAppeal(court, number)) {
            throw new UnsupportedOperationException("no verdict can be appealed");
        }
        past.keep(court);
        return court.voteAnew(number);
    }

    public int clerk() throws UnsupportedOperationException {
        if (refusals.ofClerk(court)) {
            throw new UnsupportedOperationException("there are 4 clerks");
        }
        past.keep(court);
        return court.addClerk();
    }

    public int night() throws UnsupportedOperationException {
        if (refusals.ofNight(court)) {
            throw new UnsupportedOperationException("it is the night 99");
        }
        past.keep(court);
        return court.passNight();
    }

    public int jurorOf(int number, int what) throws IndexOutOfBoundsException, IllegalArgumentException {
        if (!court.jurors.has(number)) {
            throw new IndexOutOfBoundsException("there is no such juror");
        }
        switch (what) {
            case 0:
                return court.jurors.leaning[number];
            case 1:
                return court.jurors.doubt[number];
            case 2:
                return court.loadOf(number);
            case 3:
                return court.jurors.counted[number];
            case 4:
                return court.jurors.outvoted[number];
            default:
                throw new IllegalArgumentException("a juror has the numbers 0 to 4");
        }
    }

    public int caseOf(int number, int what) throws IndexOutOfBoundsException, IllegalArgumentException {
        Cases cases = court.cases;
        if (!cases.has(number)) {
            throw new IndexOutOfBoundsException("there is no such case");
        }
        switch (what) {
            case 0:
                return cases.merit[number];
            case 1:
                return cases.term[number];
            case 2:
                return cases.panel[number];
            case 3:
                return cases.verdict[number];
            case 4:
                return cases.saidIn[number];
            case 5:
                return cases.isClosed(number) ? 1 : 0;
            case 6:
                return cases.unsaid[number];
            case 7:
                return cases.appeals[number];
            default:
                throw new IllegalArgumentException("a case has the numbers 0 to 7");
        }
    }

    public int voteOf(int juror, int number) throws IndexOutOfBoundsException {
        if (!court.jurors.has(juror) || !court.cases.has(number)) {
            throw new IndexOutOfBoundsException("there is no such juror or case");
        }
        return court.jurors.opinion(juror, court.cases.merit[number]);
    }

    public int wouldBe(int number, boolean isAgain) throws IndexOutOfBoundsException, NoSuchElementException {
        if (!court.cases.has(number)) {
            throw new IndexOutOfBoundsException("there is no such case");
        }
        if (!court.cases.hasPanel(number)) {
            throw new NoSuchElementException("there is no panel");
        }
        int panel = court.cases.panel[number];
        int merit = court.cases.merit[number];
        return isAgain ? court.jurors.verdictOfMiddle(panel, merit) : court.jurors.verdictByCount(panel, merit);
    }

    public int load(int juror, boolean isAgain) throws IndexOutOfBoundsException {
        if (!court.jurors.has(juror)) {
            throw new IndexOutOfBoundsException("there is no such juror");
        }
        return isAgain ? court.loadInRow(juror) : court.loadOf(juror);
    }

    public int callable(int place) throws NoSuchElementException {
        int juror = court.callableAt(place);
        if (juror == NONE) {
            throw new NoSuchElementException("there is no such place");
        }
        return juror;
    }

    public int thoughts(int number) throws IndexOutOfBoundsException, NoSuchElementException {
        if (!court.cases.has(number)) {
            throw new IndexOutOfBoundsException("there is no such case");
        }
        if (!court.cases.hasPanel(number)) {
            throw new NoSuchElementException("there is no panel");
        }
        imagined.copyFrom(court.jurors);
        return imagined.thoughtsToTurn(court.cases.panel[number], court.cases.merit[number]);
    }

    public boolean isOn(int juror, int number) throws IndexOutOfBoundsException {
        if (!court.jurors.has(juror) || !court.cases.has(number)) {
            throw new IndexOutOfBoundsException("there is no such juror or case");
        }
        return isIn(court.cases.panel[number], juror);
    }

    public int roll(int place, boolean isAgain) throws NoSuchElementException {
        int number = isAgain ? court.cases.takenOutAt(place) : court.cases.rowAt(place);
        if (number == NONE) {
            throw new NoSuchElementException("there is no such place");
        }
        return number;
    }

    public int rolled() {
        return court.cases.rowLength;
    }

    public int wouldTake(int number) throws IndexOutOfBoundsException, NoSuchElementException {
        if (!court.cases.has(number)) {
            throw new IndexOutOfBoundsException("there is no such case");
        }
        int taken = court.takenIn(number);
        if (taken == NEVER) {
            throw new NoSuchElementException("no clerk would take the case");
        }
        return taken;
    }

    public int overdue() {
        return court.cases.rolledBefore(court.tonight);
    }

    public int termFrom(int night) throws IllegalArgumentException, NoSuchElementException {
        if (night < 0 || night > LAST_NIGHT) {
            throw new IllegalArgumentException("a night is from 0 to 99");
        }
        int term = court.cases.rolledTermFrom(night);
        if (term == NEVER) {
            throw new NoSuchElementException("there is no such term on the roll");
        }
        return term;
    }

    public int finalIn(int number) throws IndexOutOfBoundsException, NoSuchElementException {
        Cases cases = court.cases;
        if (!cases.has(number)) {
            throw new IndexOutOfBoundsException("there is no such case");
        }
        if (!cases.hasVerdict(number)) {
            throw new NoSuchElementException("no verdict is said");
        }
        return cases.isClosed(number) ? cases.closedIn[number] : cases.saidIn[number] + NIGHTS_UNTIL_FINAL;
    }

    public int doubtful(int place) throws NoSuchElementException {
        int juror = court.jurors.doubtfulAt(place);
        if (juror == NONE) {
            throw new NoSuchElementException("there is no such place");
        }
        return juror;
    }

    public int line(int number) throws IndexOutOfBoundsException {
        if (!court.cases.has(number)) {
            throw new IndexOutOfBoundsException("there is no such case");
        }
        written.writeCase(court.cases, number);
        return written.length;
    }

    public int rollLine() {
        written.writeRoll(court.cases);
        return written.length;
    }

    public char character(int index) throws IndexOutOfBoundsException {
        if (index < 0 || index >= written.length) {
            throw new IndexOutOfBoundsException("there is no such index");
        }
        return written.characters[index];
    }

    public int append(char c) throws IllegalStateException {
        if (input.length >= MOST_CHARACTERS) {
            throw new IllegalStateException("the input contains 60 characters");
        }
        return input.add(c);
    }

    public int run() throws IllegalArgumentException, UnsupportedOperationException {
        errorAt = input.findError();
        int outcome = errorAt == NONE ? carryOutText() : WRONG;
        input.length = 0;
        if (outcome == WRONG) {
            throw new IllegalArgumentException("the text has an error, or a number in it is out of range");
        }
        if (outcome == REFUSED) {
            throw new UnsupportedOperationException("an order is refused");
        }
        return input.orders;
    }

    public int errorPosition() {
        return errorAt;
    }

    public int refusal(boolean isDetail) throws NoSuchElementException {
        if (refusals.reason == 0) {
            throw new NoSuchElementException("nothing was refused");
        }
        return isDetail ? refusals.detail : refusals.reason;
    }

    public int account(int what) throws IllegalArgumentException {
        switch (what) {
            case 0:
                return court.jurors.count;
            case 1:
                return court.cases.count;
            case 2:
                return court.clerks;
            case 3:
                return court.tonight;
            case 4:
                return court.cases.withoutPanel();
            case 5:
                return court.cases.closed();
            case 6:
                return court.said;
            case 7:
                return court.cases.sum(court.cases.unsaid);
            case 8:
                return court.cases.sum(court.cases.appeals);
            case 9:
                return court.jurors.sum(court.jurors.doubt);
            case 10:
                return input.length;
            case 11:
                return past.count;
            default:
                throw new IllegalArgumentException("the accounts are 0 to 11");
        }
    }

    public boolean isWell() {
        return court.areLoadsWell() && court.isRollWell() && court.areVotesWell() && court.areVerdictsWell();
    }

    public double meanLeaning() throws ArithmeticException {
        int count = court.jurors.count;
        if (count == 0) {
            throw new ArithmeticException("there are no jurors");
        }
        return (double) court.jurors.sum(court.jurors.leaning) / (double) count;
    }

    public float unsaidShare() throws ArithmeticException {
        if (court.said == 0) {
            throw new ArithmeticException("no verdict was said");
        }
        return (float) court.cases.sum(court.cases.unsaid) / (float) court.said;
    }

    public int undo() throws IllegalStateException {
        if (past.count == 0) {
            throw new IllegalStateException("no change can be undone");
        }
        past.bringBack(court);
        return past.count;
    }

    public int save() {
        snapshot.copyFrom(court);
        hasSnapshot = true;
        return court.cases.count;
    }

    public int restore() throws IllegalStateException {
        if (!hasSnapshot) {
            throw new IllegalStateException("there is no snapshot");
        }
        court.copyFrom(snapshot);
        past.count = 0;
        return court.cases.count;
    }

    private int carryOutText() {
        // a later order may be refused, and then nothing of the text may stand
        past.note(court);
        input.rewind();
        int outcome = DONE;
        for (int k = 0; k < input.orders && outcome == DONE; k++) {
            input.readOrder();
            if (!court.isOrderRight(input.kind, input.first, input.second)) {
                outcome = WRONG;
            } else if (refusals.ofOrder(court, input.kind, input.first)) {
                outcome = REFUSED;
            } else {
                court.obey(input.kind, input.first, input.second);
            }
        }
        if (outcome == DONE) {
            past.keepNoted();
        } else {
            past.takeBack(court);
        }
        return outcome;
    }

    private static boolean isJurorRight(int leaning, int doubt) {
        return leaning >= -MOST_LEANING && leaning <= MOST_LEANING && doubt >= 0 && doubt <= MOST_DOUBT;
    }

    private static boolean isCaseRight(int merit, int term) {
        return merit >= 0 && merit <= MOST_MERIT && term >= 0 && term <= LAST_NIGHT;
    }

    /** A set is a number whose bit k stands for the number k, as the document tells panels. */
    private static boolean isIn(int set, int member) {
        return (set >> member & 1) == 1;
    }

    private static final class Jurors {
        final int[] leaning = new int[MOST_JURORS];
        final int[] doubt = new int[MOST_JURORS];
        final int[] counted = new int[MOST_JURORS];
        final int[] outvoted = new int[MOST_JURORS];
        int count = 0;

        boolean has(int juror) {
            return juror >= 0 && juror < count;
        }

        int add(int newLeaning, int newDoubt) {
            if (count >= MOST_JURORS) {
                return NONE;
            }
            int juror = count;
            leaning[juror] = newLeaning;
            doubt[juror] = newDoubt;
            counted[juror] = 0;
            outvoted[juror] = 0;
            count++;
            return juror;
        }

        void copyFrom(Jurors other) {
            System.arraycopy(other.leaning, 0, leaning, 0, MOST_JURORS);
            System.arraycopy(other.doubt, 0, doubt, 0, MOST_JURORS);
            System.arraycopy(other.counted, 0, counted, 0, MOST_JURORS);
            System.arraycopy(other.outvoted, 0, outvoted, 0, MOST_JURORS);
            count = other.count;
        }

        int sum(int[] row) {
            int sum = 0;
            for (int j = 0; j < count; j++) {
                sum += row[j];
            }
            return sum;
        }

        int opinion(int juror, int merit) {
            return merit + LEANING_WEIGHT * leaning[juror] - doubt[juror] >= ENOUGH_MERIT ? FOR : AGAINST;
        }

        int verdictByCount(int panel, int merit) {
            int inFavour = 0;
            for (int j = 0; j < count; j++) {
                if (isIn(panel, j) && opinion(j, merit) == FOR) {
                    inFavour++;
                }
            }
            return inFavour >= MAJORITY ? FOR : AGAINST;
        }

        int verdictOfMiddle(int panel, int merit) {
            int sum = 0;
            int least = Integer.MAX_VALUE;
            int most = Integer.MIN_VALUE;
            for (int j = 0; j < count; j++) {
                if (isIn(panel, j)) {
                    int weight = LEANING_WEIGHT * leaning[j] - doubt[j];
                    sum += weight;
                    least = Math.min(least, weight);
                    most = Math.max(most, weight);
                }
            }
            // of three weights, the one in the middle is what the least and the most leave of the sum
            int middle = sum - least - most;
            return merit + middle >= ENOUGH_MERIT ? FOR : AGAINST;
        }

        int thinkOver(int panel, int merit) {
            int changed = 0;
            for (int j = 0; j < count; j++) {
                if (isIn(panel, j)) {
                    int moved = opinion(j, merit) == FOR ? leaning[j] - 1 : leaning[j] + 1;
                    if (moved >= -MOST_LEANING && moved <= MOST_LEANING) {
                        leaning[j] = moved;
                        changed++;
                    }
                }
            }
            return changed;
        }

        void takeVerdict(int panel, int merit, int verdict) {
            for (int j = 0; j < count; j++) {
                if (isIn(panel, j)) {
                    boolean isOutvoted = opinion(j, merit) != verdict;
                    counted[j]++;
                    outvoted[j] += isOutvoted ? 1 : 0;
                    doubt[j] = isOutvoted ? Math.min(doubt[j] + 1, MOST_DOUBT) : Math.max(doubt[j] - 1, 0);
                }
            }
        }

        /** This changes the jurors, so it is for a copy of them. */
        int thoughtsToTurn(int panel, int merit) {
            int atFirst = verdictByCount(panel, merit);
            for (int times = 1; times <= MOST_THOUGHTS; times++) {
                thinkOver(panel, merit);
                int verdict = verdictByCount(panel, merit);
                if (verdict != atFirst) {
                    return times;
                }
                takeVerdict(panel, merit, verdict);
            }
            return 0;
        }

        int lowestOf(int panel) {
            for (int j = 0; j < count; j++) {
                if (isIn(panel, j)) {
                    return j;
                }
            }
            return NONE;
        }

        int mostDoubtfulOf(int panel) {
            int found = NONE;
            for (int j = 0; j < count; j++) {
                if (isIn(panel, j) && (found == NONE || doubt[j] > doubt[found])) {
                    found = j;
                }
            }
            return found;
        }

        int doubtfulAt(int place) {
            if (!has(place)) {
                return NONE;
            }
            int out = 0;
            int juror = firstDoubtful(out);
            for (int k = 0; k < place && juror != NONE; k++) {
                out |= 1 << juror;
                juror = firstDoubtful(out);
            }
            return juror;
        }

        private int firstDoubtful(int without) {
            int found = NONE;
            for (int j = 0; j < count; j++) {
                if (!isIn(without, j) && (found == NONE || isMoreDoubtful(j, found))) {
                    found = j;
                }
            }
            return found;
        }

        private boolean isMoreDoubtful(int juror, int other) {
            if (doubt[juror] != doubt[other]) {
                return doubt[juror] > doubt[other];
            }
            return leaning[juror] > leaning[other];
        }
    }

    /** The roll is kept as a row in order, for its first way must not be its second, which takes the first one out. */
    private static final class Cases {
        final int[] merit = new int[MOST_CASES];
        final int[] term = new int[MOST_CASES];
        final int[] panel = new int[MOST_CASES];
        final int[] verdict = new int[MOST_CASES];
        final int[] saidIn = new int[MOST_CASES];
        final int[] closedIn = new int[MOST_CASES];
        final int[] unsaid = new int[MOST_CASES];
        final int[] appeals = new int[MOST_CASES];
        final int[] row = new int[MOST_CASES];
        int count = 0;
        int rowLength = 0;

        boolean has(int number) {
            return number >= 0 && number < count;
        }

        int add(int newMerit, int newTerm) {
            if (count >= MOST_CASES) {
                return NONE;
            }
            int number = count;
            merit[number] = newMerit;
            term[number] = newTerm;
            panel[number] = 0;
            verdict[number] = NO_VERDICT;
            saidIn[number] = NEVER;
            closedIn[number] = NEVER;
            unsaid[number] = 0;
            appeals[number] = 0;
            count++;
            return number;
        }

        void copyFrom(Cases other) {
            System.arraycopy(other.merit, 0, merit, 0, MOST_CASES);
            System.arraycopy(other.term, 0, term, 0, MOST_CASES);
            System.arraycopy(other.panel, 0, panel, 0, MOST_CASES);
            System.arraycopy(other.verdict, 0, verdict, 0, MOST_CASES);
            System.arraycopy(other.saidIn, 0, saidIn, 0, MOST_CASES);
            System.arraycopy(other.closedIn, 0, closedIn, 0, MOST_CASES);
            System.arraycopy(other.unsaid, 0, unsaid, 0, MOST_CASES);
            System.arraycopy(other.appeals, 0, appeals, 0, MOST_CASES);
            System.arraycopy(other.row, 0, row, 0, MOST_CASES);
            count = other.count;
            rowLength = other.rowLength;
        }

        boolean hasPanel(int number) {
            return panel[number] != 0;
        }

        boolean hasVerdict(int number) {
            return verdict[number] != NO_VERDICT;
        }

        boolean isClosed(int number) {
            return closedIn[number] != NEVER;
        }

        boolean isHeard(int number) {
            return hasPanel(number) && !hasVerdict(number);
        }

        boolean isRipe(int number, int night) {
            return hasVerdict(number) && !isClosed(number) && saidIn[number] <= night - NIGHTS_UNTIL_FINAL;
        }

        int sum(int[] numbers) {
            int sum = 0;
            for (int c = 0; c < count; c++) {
                sum += numbers[c];
            }
            return sum;
        }

        int withoutPanel() {
            int found = 0;
            for (int c = 0; c < count; c++) {
                found += hasPanel(c) ? 0 : 1;
            }
            return found;
        }

        int closed() {
            int found = 0;
            for (int c = 0; c < count; c++) {
                found += isClosed(c) ? 1 : 0;
            }
            return found;
        }

        void closeRipe(int night) {
            for (int c = 0; c < count; c++) {
                if (isRipe(c, night)) {
                    closedIn[c] = night;
                }
            }
        }

        void enroll(int number) {
            if (rowLength >= MOST_CASES) {
                return;
            }
            int place = rowLength;
            for (; place > 0 && comesBefore(number, row[place - 1]); place--) {
                row[place] = row[place - 1];
            }
            row[place] = number;
            rowLength++;
        }

        /** The verdict of an appeal is said of a case that is not on the roll: then there is nothing to strike. */
        void strike(int number) {
            int place = placeOnRoll(number);
            if (place == NONE) {
                return;
            }
            rowLength--;
            for (int k = place; k < rowLength; k++) {
                row[k] = row[k + 1];
            }
        }

        int placeOnRoll(int number) {
            for (int k = 0; k < rowLength; k++) {
                if (row[k] == number) {
                    return k;
                }
            }
            return NONE;
        }

        int rowAt(int place) {
            return place >= 0 && place < rowLength ? row[place] : NONE;
        }

        int takenOutAt(int place) {
            if (!has(place)) {
                return NONE;
            }
            int out = 0;
            int number = firstHeard(out);
            for (int k = 0; k < place && number != NONE; k++) {
                out |= 1 << number;
                number = firstHeard(out);
            }
            return number;
        }

        private int firstHeard(int without) {
            int found = NONE;
            for (int c = 0; c < count; c++) {
                if (isHeard(c) && !isIn(without, c) && (found == NONE || comesBefore(c, found))) {
                    found = c;
                }
            }
            return found;
        }

        private boolean comesBefore(int number, int other) {
            if (term[number] != term[other]) {
                return term[number] < term[other];
            }
            if (merit[number] != merit[other]) {
                return merit[number] < merit[other];
            }
            return number < other;
        }

        int rolledBefore(int night) {
            int found = 0;
            for (int k = 0; k < rowLength; k++) {
                found += term[row[k]] < night ? 1 : 0;
            }
            return found;
        }

        int rolledTermFrom(int night) {
            for (int k = 0; k < rowLength; k++) {
                if (term[row[k]] >= night) {
                    return term[row[k]];
                }
            }
            return NEVER;
        }
    }

    /**
     * All that changes can change, so that undo and the snapshot copy it whole. Its orders ask for no leave: Refusals
     * is asked ahead of them.
     */
    private static final class Court {
        // more than enough for ten cases, and those of nine jurors fit into a long
        private static final int TALLY_BITS = 6;

        final Jurors jurors = new Jurors();
        final Cases cases = new Cases();
        int clerks = 1;
        int tonight = 0;
        int said = 0;

        void copyFrom(Court other) {
            jurors.copyFrom(other.jurors);
            cases.copyFrom(other.cases);
            clerks = other.clerks;
            tonight = other.tonight;
            said = other.said;
        }

        int loadOf(int juror) {
            int found = 0;
            for (int c = 0; c < cases.count; c++) {
                if (!cases.isClosed(c) && isIn(cases.panel[c], juror)) {
                    found++;
                }
            }
            return found;
        }

        int loadInRow(int juror) {
            long tally = 0;
            for (int k = 0; k < cases.count * MOST_JURORS; k++) {
                int number = k / MOST_JURORS;
                int other = k % MOST_JURORS;
                if (!cases.isClosed(number) && isIn(cases.panel[number], other)) {
                    tally += 1L << TALLY_BITS * other;
                }
            }
            return (int) (tally >> TALLY_BITS * juror & (1 << TALLY_BITS) - 1);
        }

        int callableWithout(int panel) {
            int found = 0;
            for (int j = 0; j < jurors.count; j++) {
                found += !isIn(panel, j) && loadOf(j) < MOST_LOAD ? 1 : 0;
            }
            return found;
        }

        int callableAt(int place) {
            if (!jurors.has(place)) {
                return NONE;
            }
            int out = 0;
            int juror = firstCallable(out);
            for (int k = 0; k < place && juror != NONE; k++) {
                out |= 1 << juror;
                juror = firstCallable(out);
            }
            return juror;
        }

        private int firstCallable(int without) {
            int found = NONE;
            int leastLoad = MOST_LOAD;
            for (int j = 0; j < jurors.count; j++) {
                int load = isIn(without, j) ? MOST_LOAD : loadOf(j);
                boolean isTie = load == leastLoad && found != NONE && jurors.doubt[j] < jurors.doubt[found];
                if (load < leastLoad || isTie) {
                    found = j;
                    leastLoad = load;
                }
            }
            return found;
        }

        int callPanel(int number) {
            int panel = 0;
            for (int k = 0; k < PANEL_SIZE; k++) {
                int juror = firstCallable(panel);
                panel |= juror == NONE ? 0 : 1 << juror;
            }
            cases.panel[number] = panel;
            cases.enroll(number);
            return panel;
        }

        int sayVerdict(int number) {
            int panel = cases.panel[number];
            int verdict = jurors.verdictByCount(panel, cases.merit[number]);
            jurors.takeVerdict(panel, cases.merit[number], verdict);
            cases.verdict[number] = verdict;
            cases.saidIn[number] = tonight;
            cases.strike(number);
            said++;
            return verdict;
        }

        int unsayVerdict(int number) {
            cases.verdict[number] = NO_VERDICT;
            cases.saidIn[number] = NEVER;
            cases.unsaid[number]++;
            cases.enroll(number);
            return jurors.thinkOver(cases.panel[number], cases.merit[number]);
        }

        int voteAnew(int number) {
            int panel = cases.panel[number];
            int leaving = jurors.mostDoubtfulOf(panel);
            int coming = firstCallable(panel);
            if (leaving != NONE && coming != NONE) {
                cases.panel[number] = panel & ~(1 << leaving) | 1 << coming;
            }
            cases.term[number] = Math.min(cases.term[number] + NIGHTS_OF_APPEAL, LAST_NIGHT);
            cases.appeals[number]++;
            return sayVerdict(number);
        }

        int addClerk() {
            clerks++;
            return clerks;
        }

        int passNight() {
            tonight++;
            cases.closeRipe(tonight);
            int taken = Math.min(clerks, cases.rowLength);
            for (int k = 0; k < taken; k++) {
                // a case leaves the roll when its verdict is said, so the next one is the first again
                sayVerdict(cases.row[0]);
            }
            return taken;
        }

        int takenIn(int number) {
            int place = cases.placeOnRoll(number);
            if (place == NONE || clerks < 1) {
                return NEVER;
            }
            int taken = tonight + 1 + place / clerks;
            return taken > LAST_NIGHT ? NEVER : taken;
        }

        boolean isOrderRight(int kind, int first, int second) {
            switch (kind) {
                case JUROR:
                    return isJurorRight(first, second);
                case CASE:
                    return isCaseRight(first, second);
                case CALL:
                case VOTE:
                case UNSAY:
                case APPEAL:
                    return cases.has(first);
                default:
                    return true;
            }
        }

        void obey(int kind, int first, int second) {
            switch (kind) {
                case JUROR:
                    jurors.add(first, second);
                    break;
                case CASE:
                    cases.add(first, second);
                    break;
                case CALL:
                    callPanel(first);
                    break;
                case VOTE:
                    sayVerdict(first);
                    break;
                case UNSAY:
                    unsayVerdict(first);
                    break;
                case APPEAL:
                    voteAnew(first);
                    break;
                case CLERK:
                    addClerk();
                    break;
                default:
                    passNight();
                    break;
            }
        }

        boolean areLoadsWell() {
            for (int j = 0; j < jurors.count; j++) {
                int counted = loadOf(j);
                if (counted != loadInRow(j) || counted > MOST_LOAD) {
                    return false;
                }
            }
            return true;
        }

        boolean isRollWell() {
            for (int k = 0; k <= cases.rowLength; k++) {
                if (cases.rowAt(k) != cases.takenOutAt(k)) {
                    return false;
                }
            }
            return true;
        }

        boolean areVotesWell() {
            for (int c = 0; c < cases.count; c++) {
                int panel = cases.panel[c];
                int merit = cases.merit[c];
                if (panel != 0 && jurors.verdictByCount(panel, merit) != jurors.verdictOfMiddle(panel, merit)) {
                    return false;
                }
            }
            return true;
        }

        boolean areVerdictsWell() {
            for (int c = 0; c < cases.count; c++) {
                if (cases.isRipe(c, tonight)) {
                    return false;
                }
            }
            return true;
        }
    }

    /** It stands outside of Court, for the latest reason is neither undone nor saved. */
    private static final class Refusals {
        int reason = 0;
        int detail = 0;

        boolean ofJuror(Court court) {
            return court.jurors.count >= MOST_JURORS && isFor(FULL, MOST_JURORS);
        }

        boolean ofCase(Court court) {
            return court.cases.count >= MOST_CASES && isFor(FULL, MOST_CASES);
        }

        boolean ofClerk(Court court) {
            return court.clerks >= MOST_CLERKS && isFor(FULL, MOST_CLERKS);
        }

        boolean ofNight(Court court) {
            return court.tonight >= LAST_NIGHT && isFor(NO_MORE_NIGHTS, court.cases.rowLength);
        }

        boolean ofCall(Court court, int number) {
            if (court.cases.hasPanel(number)) {
                return isFor(ALREADY, court.loadOf(court.jurors.lowestOf(court.cases.panel[number])));
            }
            int found = court.callableWithout(0);
            return found < PANEL_SIZE && isFor(TOO_FEW, found);
        }

        boolean ofVote(Court court, int number) {
            if (!court.cases.hasPanel(number)) {
                return isFor(NO_PANEL, court.cases.term[number]);
            }
            if (court.cases.isClosed(number)) {
                return isFor(FINAL, court.cases.closedIn[number]);
            }
            return court.cases.hasVerdict(number) && isFor(ALREADY, court.cases.verdict[number]);
        }

        boolean ofUnsay(Court court, int number) {
            if (!court.cases.hasVerdict(number)) {
                return isFor(UNSAID, court.cases.unsaid[number]);
            }
            return court.cases.isClosed(number) && isFor(FINAL, court.cases.closedIn[number]);
        }

        boolean ofAppeal(Court court, int number) {
            if (ofUnsay(court, number)) {
                return true;
            }
            if (court.cases.appeals[number] >= MOST_APPEALS) {
                return isFor(APPEALED, court.cases.verdict[number]);
            }
            int found = court.callableWithout(court.cases.panel[number]);
            return found < 1 && isFor(TOO_FEW, found);
        }

        boolean ofOrder(Court court, int kind, int number) {
            switch (kind) {
                case JUROR:
                    return ofJuror(court);
                case CASE:
                    return ofCase(court);
                case CALL:
                    return ofCall(court, number);
                case VOTE:
                    return ofVote(court, number);
                case UNSAY:
                    return ofUnsay(court, number);
                case APPEAL:
                    return ofAppeal(court, number);
                case CLERK:
                    return ofClerk(court);
                default:
                    return ofNight(court);
            }
        }

        /** This is true always, so that the one who asks can answer with it that something is refused. */
        private boolean isFor(int newReason, int newDetail) {
            reason = newReason;
            detail = newDetail;
            return true;
        }
    }

    /**
     * A ring of courts, all made at once, so that no change makes one. It has one more than can be undone, for a text
     * that fails after all must not have written over the eldest of them.
     */
    private static final class History {
        private final Court[] ring = new Court[MOST_UNDONE + 1];
        private int head = 0;
        int count = 0;

        History() {
            for (int k = 0; k < ring.length; k++) {
                ring[k] = new Court();
            }
        }

        void keep(Court court) {
            note(court);
            keepNoted();
        }

        void note(Court court) {
            ring[head].copyFrom(court);
        }

        void keepNoted() {
            head = head == MOST_UNDONE ? 0 : head + 1;
            count = Math.min(count + 1, MOST_UNDONE);
        }

        void takeBack(Court court) {
            court.copyFrom(ring[head]);
        }

        void bringBack(Court court) {
            head = head == 0 ? MOST_UNDONE : head - 1;
            count--;
            takeBack(court);
        }
    }

    /** A text is read twice: nothing of it may be carried out until all of it is known to be without an error. */
    private static final class Text {
        private static final int NO_WORD = -1;
        private static final char END = 0;

        private final char[] characters = new char[MOST_CHARACTERS];
        int length = 0;
        int orders = 0;
        int kind = NO_WORD;
        int first = 0;
        int second = 0;
        private int at = 0;
        private int number = 0;

        int add(char c) {
            if (length < MOST_CHARACTERS) {
                characters[length] = c;
                length++;
            }
            return length;
        }

        void rewind() {
            at = 0;
        }

        int findError() {
            rewind();
            orders = 0;
            for (int k = 0; k < MOST_CHARACTERS; k++) {
                if (!readOrder()) {
                    return at;
                }
                orders++;
                if (at >= length) {
                    return NONE;
                }
            }
            return at;
        }

        boolean readOrder() {
            if (at > 0 && !take(';')) {
                return false;
            }
            kind = readWord();
            switch (kind) {
                case NO_WORD:
                    return false;
                case JUROR:
                    return readFirst(1, true) && readSecond(1);
                case CASE:
                    return readFirst(3, false) && readSecond(2);
                case CLERK:
                case NIGHT:
                    return true;
                default:
                    return readFirst(1, false);
            }
        }

        private int readWord() {
            int farthest = 0;
            for (int word = JUROR; word <= NIGHT; word++) {
                String letters = lettersOf(word);
                int alike = lettersAlike(letters);
                if (alike == letters.length()) {
                    at += alike;
                    return word;
                }
                farthest = Math.max(farthest, alike);
            }
            at += farthest;
            return NO_WORD;
        }

        private static String lettersOf(int word) {
            switch (word) {
                case JUROR:
                    return "juror";
                case CASE:
                    return "case";
                case CALL:
                    return "call";
                case VOTE:
                    return "vote";
                case UNSAY:
                    return "unsay";
                case APPEAL:
                    return "appeal";
                case CLERK:
                    return "clerk";
                default:
                    return "night";
            }
        }

        private int lettersAlike(String letters) {
            int alike = 0;
            while (alike < letters.length() && at + alike < length && characters[at + alike] == letters.charAt(alike)) {
                alike++;
            }
            return alike;
        }

        private boolean readFirst(int mostDigits, boolean isSigned) {
            boolean isRead = readNumber(mostDigits, isSigned);
            first = number;
            return isRead;
        }

        private boolean readSecond(int mostDigits) {
            boolean isRead = readNumber(mostDigits, false);
            second = number;
            return isRead;
        }

        private boolean readNumber(int mostDigits, boolean isSigned) {
            number = 0;
            if (!take(' ')) {
                return false;
            }
            boolean isNegative = isSigned && take('-');
            int digits = 0;
            for (; digits < mostDigits && isDigit(peek()); digits++) {
                number = 10 * number + (peek() - '0');
                at++;
            }
            number = isNegative ? -number : number;
            return digits > 0;
        }

        private boolean take(char c) {
            boolean isThere = peek() == c;
            at += isThere ? 1 : 0;
            return isThere;
        }

        /** Behind the last character there is END, which no text has, so it is never what is looked for. */
        private char peek() {
            return at < length ? characters[at] : END;
        }

        private static boolean isDigit(char c) {
            return c >= '0' && c <= '9';
        }
    }

    private static final class Line {
        private static final int MOST_LENGTH = 32;

        final char[] characters = new char[MOST_LENGTH];
        int length = 0;

        void writeCase(Cases cases, int number) {
            length = 0;
            addNumber(number);
            add(':');
            addNumber(cases.merit[number]);
            add('@');
            addNumber(cases.term[number]);
            if (cases.hasPanel(number)) {
                addPanel(cases.panel[number]);
            }
            if (cases.hasVerdict(number)) {
                add(cases.verdict[number] == FOR ? '+' : '-');
            }
            if (cases.isClosed(number)) {
                add('!');
            }
        }

        void writeRoll(Cases cases) {
            length = 0;
            for (int k = 0; k < cases.rowLength; k++) {
                if (k > 0) {
                    add(' ');
                }
                addNumber(cases.row[k]);
            }
        }

        private void addPanel(int panel) {
            char ahead = '[';
            for (int j = 0; j < MOST_JURORS; j++) {
                if (isIn(panel, j)) {
                    add(ahead);
                    addNumber(j);
                    ahead = ',';
                }
            }
            add(']');
        }

        /** No number of a line is below 0 or above 999, so this needs neither a sign nor a loop. */
        private void addNumber(int number) {
            if (number >= 100) {
                add((char) ('0' + number / 100));
            }
            if (number >= 10) {
                add((char) ('0' + number / 10 % 10));
            }
            add((char) ('0' + number % 10));
        }

        private void add(char c) {
            if (length < MOST_LENGTH) {
                characters[length] = c;
                length++;
            }
        }
    }
}
