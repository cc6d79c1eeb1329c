import java.util.NoSuchElementException;

/**
 * A court for lanterns. Sets of lanterns, briefs and statements are held as the bits of an int:
 * bit i stands for the lantern, brief or statement at position i.
 */
public final class LanternCourt {
    private static final int MOST_LANTERNS = 8;
    private static final int MOST_BRIEFS = 10;
    private static final int MOST_STATEMENTS = 12;
    private static final int MOST_SENTENCES = 8;
    private static final int MOST_DAYS_TO_LAST = 12;
    private static final int MOST_FEE = 50;
    private static final int MOST_SEVERITY = 9;
    private static final int MOST_DAYS_TO_PASS = 9;
    private static final int FULL_BRIGHTNESS = 9;
    private static final int MOST_UNDOS = 8;
    private static final int MOST_INPUT = 60;
    private static final int MOST_OUTPUT = 128;
    private static final int MOST_NUMBERS = 4;
    private static final int MOST_UNIT = 1000000000;

    // What a lantern has admitted; OPPOSITES minus one of guilty and innocent is the other.
    private static final int NOTHING = 0;
    private static final int GUILTY = 1;
    private static final int INNOCENT = 2;
    private static final int OPPOSITES = 3;

    private static final int ALL = -1;
    private static final int NONE = -1;
    private static final String VERDICTS = "gium";
    private static final Kind[] KINDS = Kind.values();

    private final State now = new State();
    private final State before = new State();
    private final State saved = new State();
    private final State[] history = new State[MOST_UNDOS];
    private final Plan plan = new Plan();
    private final Groups groups = new Groups();
    private final Trials trials = new Trials();
    private final Input input = new Input();
    private final Output output = new Output();
    private int nextUndo;
    private int undos;
    private boolean wasSaved;
    private int errorPosition = NONE;
    private int failedCommand = NONE;

    public LanternCourt() {
        for (int i = 0; i < MOST_UNDOS; i++) {
            history[i] = new State();
        }
    }

    // Changes

    public int addLantern() throws IllegalStateException {
        if (now.lanterns.isFull()) {
            throw new IllegalStateException("there are 8 lanterns");
        }
        remember(now);
        return now.lanterns.add();
    }

    public int file(int lantern, int days, int fee, int severity)
            throws IndexOutOfBoundsException, IllegalArgumentException, IllegalStateException {
        checkLantern(lantern);
        if (!Briefs.isInRange(days, fee, severity)) {
            throw new IllegalArgumentException("days, fee or severity out of range");
        }
        if (now.briefs.isFull()) {
            throw new IllegalStateException("10 briefs wait");
        }
        remember(now);
        return now.takeBrief(lantern, days, fee, severity);
    }

    public int withdraw(int brief) throws NoSuchElementException {
        int position = checkedBrief(brief);
        remember(now);
        return now.giveBack(position);
    }

    public int makeStatement(int first, int second, boolean together)
            throws IndexOutOfBoundsException, IllegalArgumentException, IllegalStateException {
        checkLantern(first);
        checkLantern(second);
        if (first == second) {
            throw new IllegalArgumentException("both are the same lantern");
        }
        if (now.statements.isFull()) {
            throw new IllegalStateException("there are 12 statements");
        }
        remember(now);
        return now.statements.add(first, second, together);
    }

    public int dropStatement(int statement) throws IndexOutOfBoundsException {
        checkStatement(statement);
        remember(now);
        return now.statements.remove(statement);
    }

    public boolean admit(int lantern, boolean guilty)
            throws IndexOutOfBoundsException, IllegalStateException {
        checkLantern(lantern);
        if (now.lanterns.admits(lantern, guilty)) {
            throw new IllegalStateException("it has admitted the same");
        }
        remember(now);
        return now.lanterns.setAdmission(lantern, guilty ? GUILTY : INNOCENT) != NOTHING;
    }

    public boolean retract(int lantern) throws IndexOutOfBoundsException, NoSuchElementException {
        checkLantern(lantern);
        if (now.lanterns.admissions[lantern] == NOTHING) {
            throw new NoSuchElementException("it has admitted nothing");
        }
        remember(now);
        return now.lanterns.setAdmission(lantern, NOTHING) == GUILTY;
    }

    public int passDays(int days) throws IllegalArgumentException {
        if (!canPass(days)) {
            throw new IllegalArgumentException("number of days out of range");
        }
        remember(now);
        return letPass(days);
    }

    public int pardon(int lantern) throws IndexOutOfBoundsException, NoSuchElementException {
        checkServing(lantern);
        remember(now);
        return now.lanterns.endSentence(lantern);
    }

    // Days and lanterns

    public int day() {
        return now.day;
    }

    public int lanternCount() {
        return now.lanterns.count;
    }

    public int brightness(int lantern) throws IndexOutOfBoundsException {
        checkLantern(lantern);
        return now.lanterns.brightnesses[lantern];
    }

    public boolean hasAdmitted(int lantern, boolean guilty) throws IndexOutOfBoundsException {
        checkLantern(lantern);
        return now.lanterns.admits(lantern, guilty);
    }

    public int sentenceCount(int lantern) throws IndexOutOfBoundsException {
        checkLantern(lantern);
        return now.lanterns.sentenceCounts[lantern];
    }

    public int daysLeft(int lantern) throws IndexOutOfBoundsException, NoSuchElementException {
        checkServing(lantern);
        return now.lanterns.sentences[lantern][0];
    }

    public int daysUntilFree(int lantern) throws IndexOutOfBoundsException {
        checkLantern(lantern);
        return now.lanterns.daysToServe(lantern);
    }

    public int lanternByBrightness(int rank) throws NoSuchElementException {
        if (!now.lanterns.has(rank)) {
            throw new NoSuchElementException("no such rank");
        }
        return now.lanterns.atRank(rank);
    }

    public double meanBrightness() throws ArithmeticException {
        if (now.lanterns.count == 0) {
            throw new ArithmeticException("no lanterns");
        }
        return (double) now.lanterns.brightnessSum() / (double) now.lanterns.count;
    }

    // Briefs and the plan

    public int briefCount() {
        return now.briefs.count;
    }

    public int briefAt(int position) throws NoSuchElementException {
        if (position < 0 || position >= now.briefs.count) {
            throw new NoSuchElementException("no such position");
        }
        return now.briefs.ids[position];
    }

    public int lanternOf(int brief) throws NoSuchElementException {
        return now.briefs.lanterns[checkedBrief(brief)];
    }

    public int lastDay(int brief) throws NoSuchElementException {
        return now.briefs.lastDays[checkedBrief(brief)];
    }

    public int fee(int brief) throws NoSuchElementException {
        return now.briefs.fees[checkedBrief(brief)];
    }

    public int severity(int brief) throws NoSuchElementException {
        return now.briefs.severities[checkedBrief(brief)];
    }

    public boolean isInPlan(int brief) throws NoSuchElementException {
        int position = checkedBrief(brief);
        plan.make(now.briefs, now.day);
        return plan.placeOf(position) != NONE;
    }

    public int hearingDay(int brief) throws NoSuchElementException {
        int position = checkedBrief(brief);
        plan.make(now.briefs, now.day);
        int place = plan.placeOf(position);
        if (place == NONE) {
            throw new NoSuchElementException("not in the plan");
        }
        return now.day + 1 + place;
    }

    public int planFee() {
        plan.make(now.briefs, now.day);
        return now.briefs.feesOf(plan.taken);
    }

    public int planFeeBySets() {
        return plan.greatestFeeOfSets(now.briefs, now.day);
    }

    // Statements, groups and verdicts

    public int statementCount() {
        return now.statements.count;
    }

    public int firstOf(int statement) throws IndexOutOfBoundsException {
        checkStatement(statement);
        return now.statements.firsts[statement];
    }

    public int secondOf(int statement) throws IndexOutOfBoundsException {
        checkStatement(statement);
        return now.statements.seconds[statement];
    }

    public boolean isTogether(int statement) throws IndexOutOfBoundsException {
        checkStatement(statement);
        return now.statements.togethers[statement];
    }

    public int groupCount() {
        groups.find(now.lanterns, now.statements, ALL);
        return groups.countGroups();
    }

    public boolean isContradictory(int lantern) throws IndexOutOfBoundsException {
        checkLantern(lantern);
        groups.find(now.lanterns, now.statements, ALL);
        return groups.isBroken(lantern);
    }

    public char relation(int first, int second)
            throws IndexOutOfBoundsException, NoSuchElementException {
        checkLantern(first);
        checkLantern(second);
        groups.find(now.lanterns, now.statements, ALL);
        if (!groups.areJoined(first, second)) {
            return '?';
        }
        if (groups.hasClash(first)) {
            throw new NoSuchElementException("the statements of the group cannot all be true");
        }
        return groups.areOnOneSide(first, second) ? '+' : '-';
    }

    public char verdict(int lantern) throws IndexOutOfBoundsException {
        checkLantern(lantern);
        groups.find(now.lanterns, now.statements, ALL);
        return groups.verdictOn(lantern);
    }

    public char verdictByExplanations(int lantern) throws IndexOutOfBoundsException {
        checkLantern(lantern);
        return trials.verdictOn(lantern, now.lanterns, now.statements);
    }

    public int explanations() {
        groups.find(now.lanterns, now.statements, ALL);
        return groups.waysToExplain();
    }

    public int explanationsByTrial() {
        return trials.countPossible(now.lanterns, now.statements);
    }

    public int leastFalse() {
        return trials.fewestFalse(now.lanterns, now.statements);
    }

    public int leastFalseBySets() {
        int count = now.statements.count;
        int least = count;
        for (int dropped = 0; dropped < 1 << count; dropped++) {
            int size = Integer.bitCount(dropped);
            if (size < least) {
                groups.find(now.lanterns, now.statements, ~dropped);
                if (groups.waysToExplain() > 0) {
                    least = size;
                }
            }
        }
        return least;
    }

    // Sums

    public int courtCoins() {
        return now.feesFiled - now.coinsBack;
    }

    public int paidBack() {
        return now.coinsBack;
    }

    public int hearingCount(char verdict) throws IllegalArgumentException {
        int place = VERDICTS.indexOf(verdict);
        if (place < 0 || place >= now.hearings.length) {
            throw new IllegalArgumentException("no such verdict");
        }
        return now.hearings[place];
    }

    public int lapsedCount() {
        return now.lapsed;
    }

    public int servedDays() {
        return now.served;
    }

    public float guiltyShare() throws ArithmeticException {
        int all = now.allHearings();
        if (all == 0) {
            throw new ArithmeticException("no hearing");
        }
        return (float) hearingCount('g') / (float) all;
    }

    public boolean isConsistent() {
        return planFee() == planFeeBySets() && doVerdictsAgree()
                && explanations() == explanationsByTrial() && leastFalse() == leastFalseBySets();
    }

    // Commands and output

    public int feed(char character) throws IllegalStateException {
        if (input.isFull()) {
            throw new IllegalStateException("the input buffer holds 60 characters");
        }
        return input.append(character);
    }

    public int runCommands() throws IllegalArgumentException, UnsupportedOperationException {
        int commands = input.countCommands();
        if (commands == NONE) {
            errorPosition = input.position;
            input.empty();
            throw new IllegalArgumentException("malformed text");
        }
        before.copyFrom(now);
        int failed = carryOutAll(commands);
        input.empty();
        if (failed != NONE) {
            failedCommand = failed;
            now.copyFrom(before);
            throw new UnsupportedOperationException("a command failed");
        }
        remember(before);
        return commands;
    }

    public int errorPosition() throws NoSuchElementException {
        if (errorPosition == NONE) {
            throw new NoSuchElementException("no text was malformed");
        }
        return errorPosition;
    }

    public int failedCommand() throws NoSuchElementException {
        if (failedCommand == NONE) {
            throw new NoSuchElementException("no command failed");
        }
        return failedCommand;
    }

    public int writeLantern(int lantern) throws IndexOutOfBoundsException {
        checkLantern(lantern);
        output.empty();
        output.putNumber(lantern);
        for (int i = 0; i < now.lanterns.brightnesses[lantern]; i++) {
            output.put('*');
        }
        if (now.lanterns.admissions[lantern] != NOTHING) {
            output.put(now.lanterns.admits(lantern, true) ? 'g' : 'i');
        }
        for (int i = 0; i < now.lanterns.sentenceCounts[lantern]; i++) {
            output.put('/');
            output.putNumber(now.lanterns.sentences[lantern][i]);
        }
        return output.length;
    }

    public int writePlan() {
        plan.make(now.briefs, now.day);
        output.empty();
        for (int i = 0; i < plan.count; i++) {
            if (i > 0) {
                output.put(' ');
            }
            output.putNumber(now.briefs.ids[plan.hearings[i]]);
        }
        return output.length;
    }

    public char outputChar(int index) throws IndexOutOfBoundsException {
        if (index < 0 || index >= output.length) {
            throw new IndexOutOfBoundsException("no such character");
        }
        return output.characters[index];
    }

    // Undo and save

    public int undoCount() {
        return undos;
    }

    public int undo() throws IllegalStateException {
        if (undos == 0) {
            throw new IllegalStateException("no call can be undone");
        }
        nextUndo = nextUndo == 0 ? MOST_UNDOS - 1 : nextUndo - 1;
        undos--;
        now.copyFrom(history[nextUndo]);
        return undos;
    }

    public int save() {
        saved.copyFrom(now);
        wasSaved = true;
        return now.lanterns.count;
    }

    public int restore() throws IllegalStateException {
        if (!wasSaved) {
            throw new IllegalStateException("no state was saved");
        }
        now.copyFrom(saved);
        undos = 0;
        return now.lanterns.count;
    }

    // Helpers

    private void checkLantern(int lantern) {
        if (!now.lanterns.has(lantern)) {
            throw new IndexOutOfBoundsException("no such lantern");
        }
    }

    private void checkServing(int lantern) {
        checkLantern(lantern);
        if (!now.lanterns.serves(lantern)) {
            throw new NoSuchElementException("it serves no sentence");
        }
    }

    private void checkStatement(int statement) {
        if (!now.statements.has(statement)) {
            throw new IndexOutOfBoundsException("no such statement");
        }
    }

    private int checkedBrief(int brief) {
        int position = now.briefs.positionOf(brief);
        if (position == NONE) {
            throw new NoSuchElementException("no brief with this id waits");
        }
        return position;
    }

    private static boolean canPass(int days) {
        return days >= 1 && days <= MOST_DAYS_TO_PASS;
    }

    /** Keeps a state for undo; when the history is full, the oldest state makes room. */
    private void remember(State state) {
        history[nextUndo].copyFrom(state);
        nextUndo = nextUndo == MOST_UNDOS - 1 ? 0 : nextUndo + 1;
        undos = Math.min(undos + 1, MOST_UNDOS);
    }

    private int letPass(int days) {
        int heard = 0;
        for (int i = 0; i < days; i++) {
            // The plan is made before the day increases, for its first hearing is on the next day.
            plan.make(now.briefs, now.day);
            now.day++;
            if (plan.count > 0) {
                hear(plan.hearings[0]);
                heard++;
            }
            now.letLapse();
            now.served += now.lanterns.liveOneDay();
        }
        return heard;
    }

    private void hear(int position) {
        groups.find(now.lanterns, now.statements, ALL);
        now.closeHearing(position, groups.verdictOn(now.briefs.lanterns[position]));
    }

    private boolean doVerdictsAgree() {
        groups.find(now.lanterns, now.statements, ALL);
        for (int i = 0; i < now.lanterns.count; i++) {
            if (groups.verdictOn(i) != trials.verdictOn(i, now.lanterns, now.statements)) {
                return false;
            }
        }
        return true;
    }

    /** Returns the index of the first command that fails, or NONE. */
    private int carryOutAll(int commands) {
        input.rewind();
        for (int i = 0; i < commands; i++) {
            if (!input.readCommand() || !carryOut(input.kind, input.numbers, input.choice)) {
                return i;
            }
            input.skipSemicolon();
        }
        return NONE;
    }

    /** Carries out a command if its method would throw nothing, and returns whether it did. */
    private boolean carryOut(Kind kind, int[] numbers, boolean choice) {
        if (!isPossible(kind, numbers, choice)) {
            return false;
        }
        switch (kind) {
            case LANTERN:
                now.lanterns.add();
                break;
            case FILE:
                now.takeBrief(numbers[0], numbers[1], numbers[2], numbers[3]);
                break;
            case CANCEL:
                now.giveBack(now.briefs.positionOf(numbers[0]));
                break;
            case SAY:
                now.statements.add(numbers[0], numbers[1], choice);
                break;
            case DROP:
                now.statements.remove(numbers[0]);
                break;
            case ADMIT:
                now.lanterns.setAdmission(numbers[0], choice ? GUILTY : INNOCENT);
                break;
            case FREE:
                now.lanterns.endSentence(numbers[0]);
                break;
            default:
                letPass(numbers[0]);
                break;
        }
        return true;
    }

    private boolean isPossible(Kind kind, int[] numbers, boolean choice) {
        int number = numbers[0];
        switch (kind) {
            case LANTERN:
                return !now.lanterns.isFull();
            case FILE:
                return now.lanterns.has(number) && Briefs.isInRange(numbers[1], numbers[2], numbers[3])
                        && !now.briefs.isFull();
            case CANCEL:
                return now.briefs.positionOf(number) != NONE;
            case SAY:
                return now.lanterns.has(number) && now.lanterns.has(numbers[1])
                        && number != numbers[1] && !now.statements.isFull();
            case DROP:
                return now.statements.has(number);
            case ADMIT:
                return now.lanterns.has(number) && !now.lanterns.admits(number, choice);
            case FREE:
                return now.lanterns.has(number) && now.lanterns.serves(number);
            default:
                return canPass(number);
        }
    }

    /** All that undo, save and restore keep. */
    private static final class State {
        int day;
        final Lanterns lanterns = new Lanterns();
        final Briefs briefs = new Briefs();
        final Statements statements = new Statements();
        int feesFiled;
        int coinsBack;
        final int[] hearings = new int[4];
        int lapsed;
        int served;

        void copyFrom(State other) {
            day = other.day;
            lanterns.copyFrom(other.lanterns);
            briefs.copyFrom(other.briefs);
            statements.copyFrom(other.statements);
            feesFiled = other.feesFiled;
            coinsBack = other.coinsBack;
            System.arraycopy(other.hearings, 0, hearings, 0, hearings.length);
            lapsed = other.lapsed;
            served = other.served;
        }

        int takeBrief(int lantern, int days, int fee, int severity) {
            feesFiled += fee;
            return briefs.add(lantern, day + days, fee, severity);
        }

        /** Takes a withdrawn brief away and returns what is paid back for it. */
        int giveBack(int position) {
            int half = briefs.fees[position] / 2;
            coinsBack += half;
            briefs.remove(position);
            return half;
        }

        void closeHearing(int position, char verdict) {
            int place = VERDICTS.indexOf(verdict);
            if (place >= 0 && place < hearings.length) {
                hearings[place]++;
            }
            if (verdict == 'g') {
                lanterns.addSentence(briefs.lanterns[position], briefs.severities[position]);
            }
            if (verdict == 'm') {
                coinsBack += briefs.fees[position] / 2;
            }
            briefs.remove(position);
        }

        void letLapse() {
            // From the end, for a removal moves the later briefs.
            for (int i = briefs.count - 1; i >= 0; i--) {
                if (briefs.lastDays[i] <= day) {
                    coinsBack += briefs.fees[i];
                    lapsed++;
                    briefs.remove(i);
                }
            }
        }

        int allHearings() {
            int all = 0;
            for (int i = 0; i < hearings.length; i++) {
                all += hearings[i];
            }
            return all;
        }
    }

    private static final class Lanterns {
        int count;
        final int[] brightnesses = new int[MOST_LANTERNS];
        final int[] admissions = new int[MOST_LANTERNS];
        final int[] sentenceCounts = new int[MOST_LANTERNS];
        final int[][] sentences = new int[MOST_LANTERNS][MOST_SENTENCES];

        void copyFrom(Lanterns other) {
            count = other.count;
            System.arraycopy(other.brightnesses, 0, brightnesses, 0, MOST_LANTERNS);
            System.arraycopy(other.admissions, 0, admissions, 0, MOST_LANTERNS);
            System.arraycopy(other.sentenceCounts, 0, sentenceCounts, 0, MOST_LANTERNS);
            for (int i = 0; i < MOST_LANTERNS; i++) {
                System.arraycopy(other.sentences[i], 0, sentences[i], 0, MOST_SENTENCES);
            }
        }

        boolean isFull() {
            return count >= MOST_LANTERNS;
        }

        boolean has(int lantern) {
            return lantern >= 0 && lantern < count;
        }

        int add() {
            brightnesses[count] = FULL_BRIGHTNESS;
            admissions[count] = NOTHING;
            sentenceCounts[count] = 0;
            count++;
            return count - 1;
        }

        boolean admits(int lantern, boolean guilty) {
            return admissions[lantern] == (guilty ? GUILTY : INNOCENT);
        }

        /** Returns what was admitted before. */
        int setAdmission(int lantern, int admission) {
            int earlier = admissions[lantern];
            admissions[lantern] = admission;
            return earlier;
        }

        /** Returns the set of the lanterns that have admitted this. */
        int admitting(int admission) {
            int set = 0;
            for (int i = 0; i < count; i++) {
                if (admissions[i] == admission) {
                    set |= 1 << i;
                }
            }
            return set;
        }

        boolean serves(int lantern) {
            return sentenceCounts[lantern] > 0;
        }

        void addSentence(int lantern, int days) {
            if (sentenceCounts[lantern] < MOST_SENTENCES) {
                sentences[lantern][sentenceCounts[lantern]] = days;
                sentenceCounts[lantern]++;
            }
        }

        /** Ends the sentence that a lantern serves and returns its days that were left. */
        int endSentence(int lantern) {
            int[] own = sentences[lantern];
            int left = own[0];
            sentenceCounts[lantern]--;
            for (int i = 0; i < sentenceCounts[lantern]; i++) {
                own[i] = own[i + 1];
            }
            return left;
        }

        int daysToServe(int lantern) {
            int days = 0;
            for (int i = 0; i < sentenceCounts[lantern]; i++) {
                days += sentences[lantern][i];
            }
            return days;
        }

        /** Dims those that serve, brightens the others, and returns the days that were served. */
        int liveOneDay() {
            int days = 0;
            for (int i = 0; i < count; i++) {
                if (serves(i)) {
                    brightnesses[i] = Math.max(brightnesses[i] - 1, 0);
                    sentences[i][0]--;
                    days++;
                    if (sentences[i][0] == 0) {
                        endSentence(i);
                    }
                } else {
                    brightnesses[i] = Math.min(brightnesses[i] + 1, FULL_BRIGHTNESS);
                }
            }
            return days;
        }

        int brightnessSum() {
            int sum = 0;
            for (int i = 0; i < count; i++) {
                sum += brightnesses[i];
            }
            return sum;
        }

        /** The rank of a lantern is the number of those that come before it. */
        int atRank(int rank) {
            for (int i = 0; i < count; i++) {
                int earlier = 0;
                for (int j = 0; j < count; j++) {
                    if (comesBefore(j, i)) {
                        earlier++;
                    }
                }
                if (earlier == rank) {
                    return i;
                }
            }
            return NONE;
        }

        boolean comesBefore(int one, int other) {
            if (brightnesses[one] != brightnesses[other]) {
                return brightnesses[one] < brightnesses[other];
            }
            int oneDays = daysToServe(one);
            int otherDays = daysToServe(other);
            return oneDays != otherDays ? oneDays > otherDays : one < other;
        }
    }

    /** The waiting briefs, in the order of their ids. */
    private static final class Briefs {
        int count;
        int nextId;
        final int[] ids = new int[MOST_BRIEFS];
        final int[] lanterns = new int[MOST_BRIEFS];
        final int[] lastDays = new int[MOST_BRIEFS];
        final int[] fees = new int[MOST_BRIEFS];
        final int[] severities = new int[MOST_BRIEFS];

        void copyFrom(Briefs other) {
            count = other.count;
            nextId = other.nextId;
            System.arraycopy(other.ids, 0, ids, 0, MOST_BRIEFS);
            System.arraycopy(other.lanterns, 0, lanterns, 0, MOST_BRIEFS);
            System.arraycopy(other.lastDays, 0, lastDays, 0, MOST_BRIEFS);
            System.arraycopy(other.fees, 0, fees, 0, MOST_BRIEFS);
            System.arraycopy(other.severities, 0, severities, 0, MOST_BRIEFS);
        }

        static boolean isInRange(int days, int fee, int severity) {
            return days >= 1 && days <= MOST_DAYS_TO_LAST && fee >= 1 && fee <= MOST_FEE
                    && severity >= 1 && severity <= MOST_SEVERITY;
        }

        boolean isFull() {
            return count >= MOST_BRIEFS;
        }

        int add(int lantern, int lastDay, int fee, int severity) {
            ids[count] = nextId;
            lanterns[count] = lantern;
            lastDays[count] = lastDay;
            fees[count] = fee;
            severities[count] = severity;
            count++;
            nextId++;
            return nextId - 1;
        }

        void remove(int position) {
            count--;
            for (int i = position; i < count; i++) {
                ids[i] = ids[i + 1];
                lanterns[i] = lanterns[i + 1];
                lastDays[i] = lastDays[i + 1];
                fees[i] = fees[i + 1];
                severities[i] = severities[i + 1];
            }
        }

        int positionOf(int id) {
            for (int i = 0; i < count; i++) {
                if (ids[i] == id) {
                    return i;
                }
            }
            return NONE;
        }

        int feesOf(int set) {
            int sum = 0;
            for (int i = 0; i < count; i++) {
                if ((set >> i & 1) == 1) {
                    sum += fees[i];
                }
            }
            return sum;
        }
    }

    private static final class Statements {
        int count;
        final int[] firsts = new int[MOST_STATEMENTS];
        final int[] seconds = new int[MOST_STATEMENTS];
        final boolean[] togethers = new boolean[MOST_STATEMENTS];

        void copyFrom(Statements other) {
            count = other.count;
            System.arraycopy(other.firsts, 0, firsts, 0, MOST_STATEMENTS);
            System.arraycopy(other.seconds, 0, seconds, 0, MOST_STATEMENTS);
            for (int i = 0; i < MOST_STATEMENTS; i++) {
                togethers[i] = other.togethers[i];
            }
        }

        boolean isFull() {
            return count >= MOST_STATEMENTS;
        }

        boolean has(int statement) {
            return statement >= 0 && statement < count;
        }

        int add(int first, int second, boolean together) {
            firsts[count] = first;
            seconds[count] = second;
            togethers[count] = together;
            count++;
            return count - 1;
        }

        /** Returns the number of statements that stay. */
        int remove(int statement) {
            count--;
            for (int i = statement; i < count; i++) {
                firsts[i] = firsts[i + 1];
                seconds[i] = seconds[i + 1];
                togethers[i] = togethers[i + 1];
            }
            return count;
        }

        boolean isTrue(int statement, int guilty) {
            int difference = (guilty >> firsts[statement] ^ guilty >> seconds[statement]) & 1;
            return (difference == 0) == togethers[statement];
        }

        /** Counts the statements about lanterns of a group that are false if this set is guilty. */
        int countFalse(int group, int guilty) {
            int number = 0;
            for (int i = 0; i < count; i++) {
                if ((group >> firsts[i] & 1) == 1 && !isTrue(i, guilty)) {
                    number++;
                }
            }
            return number;
        }

        /** Returns the set of the lanterns that statements connect with a lantern. */
        int connectedWith(int lantern) {
            int group = 1 << lantern;
            // Each round but the last reaches a further lantern.
            for (int round = 0; round < MOST_LANTERNS; round++) {
                for (int i = 0; i < count; i++) {
                    int both = 1 << firsts[i] | 1 << seconds[i];
                    if ((group & both) != 0) {
                        group |= both;
                    }
                }
            }
            return group;
        }
    }

    private static final class Plan {
        int count;
        int taken;
        /** The positions of the briefs in the order of the hearings. */
        final int[] hearings = new int[MOST_BRIEFS];
        private final int[] visits = new int[MOST_BRIEFS];
        /** For each number of days from now, the set of the briefs that must be heard in them. */
        private final int[] dueWithin = new int[MOST_DAYS_TO_LAST + 1];

        void make(Briefs briefs, int day) {
            findDueSets(briefs, day);
            orderVisits(briefs);
            taken = 0;
            count = 0;
            for (int i = 0; i < briefs.count; i++) {
                int larger = taken | 1 << visits[i];
                if (isPossible(larger)) {
                    taken = larger;
                    count++;
                }
            }
            orderHearings(briefs);
        }

        int greatestFeeOfSets(Briefs briefs, int day) {
            findDueSets(briefs, day);
            int greatest = 0;
            for (int set = 0; set < 1 << briefs.count; set++) {
                if (isPossible(set)) {
                    greatest = Math.max(greatest, briefs.feesOf(set));
                }
            }
            return greatest;
        }

        int placeOf(int position) {
            for (int i = 0; i < count; i++) {
                if (hearings[i] == position) {
                    return i;
                }
            }
            return NONE;
        }

        private void findDueSets(Briefs briefs, int day) {
            for (int days = 0; days < dueWithin.length; days++) {
                dueWithin[days] = 0;
                for (int i = 0; i < briefs.count; i++) {
                    if (briefs.lastDays[i] - day <= days) {
                        dueWithin[days] |= 1 << i;
                    }
                }
            }
        }

        /** Briefs get different days just if no number of days is too few for those due in it. */
        private boolean isPossible(int set) {
            for (int days = 0; days < dueWithin.length; days++) {
                if (Integer.bitCount(set & dueWithin[days]) > days) {
                    return false;
                }
            }
            return true;
        }

        private void orderVisits(Briefs briefs) {
            for (int i = 0; i < briefs.count; i++) {
                int place = 0;
                for (int j = 0; j < briefs.count; j++) {
                    int more = briefs.fees[j] - briefs.fees[i];
                    if (more > 0 || more == 0 && isDueBefore(briefs, j, i)) {
                        place++;
                    }
                }
                visits[place] = i;
            }
        }

        private void orderHearings(Briefs briefs) {
            for (int i = 0; i < briefs.count; i++) {
                int place = 0;
                for (int j = 0; j < briefs.count; j++) {
                    if ((taken >> j & 1) == 1 && isDueBefore(briefs, j, i)) {
                        place++;
                    }
                }
                if ((taken >> i & 1) == 1) {
                    hearings[place] = i;
                }
            }
        }

        private static boolean isDueBefore(Briefs briefs, int one, int other) {
            int oneLast = briefs.lastDays[one];
            int otherLast = briefs.lastDays[other];
            return oneLast != otherLast ? oneLast < otherLast : one < other;
        }
    }

    /** Groups with sides: each lantern has a leader, and is on its side, 0, or on the other one, 1. */
    private static final class Groups {
        private int count;
        private final int[] leaders = new int[MOST_LANTERNS];
        private final int[] sides = new int[MOST_LANTERNS];
        /** Of leaders: whether the statements of the group cannot all be true. */
        private final boolean[] clashes = new boolean[MOST_LANTERNS];
        /** Of leaders: the sum of the different things that the admissions say of the leader. */
        private final int[] claims = new int[MOST_LANTERNS];

        /** Finds the groups, with the admissions and those statements that are kept. */
        void find(Lanterns lanterns, Statements statements, int kept) {
            count = lanterns.count;
            for (int i = 0; i < count; i++) {
                leaders[i] = i;
                sides[i] = 0;
                clashes[i] = false;
                claims[i] = NOTHING;
            }
            for (int i = 0; i < statements.count; i++) {
                if ((kept >> i & 1) == 1) {
                    join(statements.firsts[i], statements.seconds[i], statements.togethers[i] ? 0 : 1);
                }
            }
            for (int i = 0; i < count; i++) {
                if (lanterns.admissions[i] != NOTHING) {
                    claims[leaders[i]] |= seenByLeader(i, lanterns.admissions[i]);
                }
            }
        }

        private void join(int first, int second, int difference) {
            int leader = leaders[first];
            int joined = leaders[second];
            int turn = sides[first] ^ sides[second] ^ difference;
            if (leader == joined) {
                clashes[leader] = clashes[leader] || turn == 1;
                return;
            }
            clashes[leader] = clashes[leader] || clashes[joined];
            for (int i = 0; i < count; i++) {
                if (leaders[i] == joined) {
                    leaders[i] = leader;
                    sides[i] ^= turn;
                }
            }
        }

        /** Turns guilty into innocent, and the reverse, if the lantern is not on its leader's side. */
        private int seenByLeader(int lantern, int claim) {
            return sides[lantern] == 1 ? OPPOSITES - claim : claim;
        }

        int countGroups() {
            int number = 0;
            for (int i = 0; i < count; i++) {
                if (leaders[i] == i) {
                    number++;
                }
            }
            return number;
        }

        boolean areJoined(int first, int second) {
            return leaders[first] == leaders[second];
        }

        boolean areOnOneSide(int first, int second) {
            return sides[first] == sides[second];
        }

        boolean hasClash(int lantern) {
            return clashes[leaders[lantern]];
        }

        boolean isBroken(int lantern) {
            return clashes[leaders[lantern]] || claims[leaders[lantern]] == OPPOSITES;
        }

        char verdictOn(int lantern) {
            if (isBroken(lantern)) {
                return 'm';
            }
            int claim = claims[leaders[lantern]];
            if (claim == NOTHING) {
                return 'u';
            }
            return seenByLeader(lantern, claim) == GUILTY ? 'g' : 'i';
        }

        /** A group that no admission decides can be explained in two ways. */
        int waysToExplain() {
            int ways = 1;
            for (int i = 0; i < count; i++) {
                if (isBroken(i)) {
                    return 0;
                }
                if (leaders[i] == i && claims[i] == NOTHING) {
                    ways *= 2;
                }
            }
            return ways;
        }
    }

    /** Answers by trying all explanations; an explanation is the set of the guilty lanterns. */
    private static final class Trials {
        private int admittedGuilt;
        private int admittedInnocence;

        private void readAdmissions(Lanterns lanterns) {
            admittedGuilt = lanterns.admitting(GUILTY);
            admittedInnocence = lanterns.admitting(INNOCENT);
        }

        private boolean keepsAdmissions(int group, int guilty) {
            return (admittedGuilt & group & ~guilty) == 0 && (admittedInnocence & group & guilty) == 0;
        }

        char verdictOn(int lantern, Lanterns lanterns, Statements statements) {
            readAdmissions(lanterns);
            int group = statements.connectedWith(lantern);
            boolean canBeGuilty = false;
            boolean canBeInnocent = false;
            for (int guilty = 0; guilty < 1 << lanterns.count; guilty++) {
                if (keepsAdmissions(group, guilty) && statements.countFalse(group, guilty) == 0) {
                    if ((guilty >> lantern & 1) == 1) {
                        canBeGuilty = true;
                    } else {
                        canBeInnocent = true;
                    }
                }
            }
            if (canBeGuilty) {
                return canBeInnocent ? 'u' : 'g';
            }
            return canBeInnocent ? 'i' : 'm';
        }

        int countPossible(Lanterns lanterns, Statements statements) {
            readAdmissions(lanterns);
            int number = 0;
            for (int guilty = 0; guilty < 1 << lanterns.count; guilty++) {
                if (keepsAdmissions(ALL, guilty) && statements.countFalse(ALL, guilty) == 0) {
                    number++;
                }
            }
            return number;
        }

        int fewestFalse(Lanterns lanterns, Statements statements) {
            readAdmissions(lanterns);
            int fewest = statements.count;
            for (int guilty = 0; guilty < 1 << lanterns.count; guilty++) {
                if (keepsAdmissions(ALL, guilty)) {
                    fewest = Math.min(fewest, statements.countFalse(ALL, guilty));
                }
            }
            return fewest;
        }
    }

    /**
     * The kinds of commands. In a form, a digit stands for a number of at most so many digits, '+'
     * for a plus or a minus, 'g' for a "g" or an "i", and '?' says that the command may end there.
     */
    private enum Kind {
        LANTERN("lantern", ""),
        FILE("file", " 1 2 2 1"),
        CANCEL("cancel", " 3"),
        SAY("say", " 11+"),
        DROP("drop", " 2"),
        ADMIT("admit", " 1 g"),
        FREE("free", " 1"),
        WAIT("wait", "? 1");

        final String keyword;
        final String form;

        Kind(String keyword, String form) {
            this.keyword = keyword;
            this.form = form;
        }
    }

    /** The input buffer, and what reads it command by command. */
    private static final class Input {
        private final char[] characters = new char[MOST_INPUT];
        private int length;
        int position;
        // What was read last.
        Kind kind = Kind.LANTERN;
        final int[] numbers = new int[MOST_NUMBERS];
        private int numberCount;
        boolean choice;

        boolean isFull() {
            return length >= MOST_INPUT;
        }

        int append(char character) {
            characters[length] = character;
            length++;
            return length;
        }

        void empty() {
            length = 0;
        }

        void rewind() {
            position = 0;
        }

        void skipSemicolon() {
            position++;
        }

        /** Returns NONE if the text is malformed; the position is then that of the error. */
        int countCommands() {
            rewind();
            for (int commands = 1; commands <= MOST_INPUT; commands++) {
                if (!readCommand()) {
                    return NONE;
                }
                if (position >= length) {
                    return commands;
                }
                skipSemicolon();
            }
            return NONE;
        }

        /** Reads up to the end of a command, or up to what makes it malformed. */
        boolean readCommand() {
            if (!readKeyword()) {
                return false;
            }
            // "wait" alone lets one day pass.
            numbers[0] = 1;
            numberCount = 0;
            for (int i = 0; i < kind.form.length(); i++) {
                char part = kind.form.charAt(i);
                if (part == '?') {
                    if (isAtEnd()) {
                        return true;
                    }
                } else if (!readPart(part)) {
                    return false;
                }
            }
            return isAtEnd();
        }

        private boolean isAtEnd() {
            return position >= length || characters[position] == ';';
        }

        private boolean readKeyword() {
            int farthest = 0;
            for (int i = 0; i < KINDS.length; i++) {
                String keyword = KINDS[i].keyword;
                int same = lettersInCommon(keyword);
                farthest = Math.max(farthest, same);
                if (same == keyword.length()) {
                    kind = KINDS[i];
                    position += same;
                    return true;
                }
            }
            position += farthest;
            return false;
        }

        private int lettersInCommon(String keyword) {
            int same = 0;
            while (same < keyword.length() && position + same < length
                    && characters[position + same] == keyword.charAt(same)) {
                same++;
            }
            return same;
        }

        private boolean readPart(char part) {
            if (part == ' ') {
                return readCharacter(' ');
            }
            if (part == '+') {
                choice = readCharacter('+');
                return choice || readCharacter('-');
            }
            if (part == 'g') {
                choice = readCharacter('g');
                return choice || readCharacter('i');
            }
            return readNumber(part - '0');
        }

        private boolean readCharacter(char wanted) {
            if (position >= length || characters[position] != wanted) {
                return false;
            }
            position++;
            return true;
        }

        private boolean readNumber(int mostDigits) {
            int value = 0;
            int digits = 0;
            while (digits < mostDigits && position < length && isDigit(characters[position])) {
                value = value * 10 + (characters[position] - '0');
                digits++;
                position++;
            }
            if (digits == 0 || numberCount >= numbers.length) {
                return false;
            }
            numbers[numberCount] = value;
            numberCount++;
            return true;
        }

        private static boolean isDigit(char character) {
            return character >= '0' && character <= '9';
        }
    }

    private static final class Output {
        final char[] characters = new char[MOST_OUTPUT];
        int length;

        void empty() {
            length = 0;
        }

        void put(char character) {
            if (length < characters.length) {
                characters[length] = character;
                length++;
            }
        }

        void putNumber(int number) {
            for (int unit = MOST_UNIT; unit >= 1; unit /= 10) {
                if (number >= unit || unit == 1) {
                    put((char) ('0' + number / unit % 10));
                }
            }
        }
    }
}
