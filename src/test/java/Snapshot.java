import java.util.function.Supplier;

/** All that the questions of a court answer, as one text; no question changes what another one answers. */
final class Snapshot {
    private final LanternCourt court;
    private final StringBuilder text = new StringBuilder();

    private Snapshot(LanternCourt court) {
        this.court = court;
    }

    static String of(LanternCourt court) {
        Snapshot snapshot = new Snapshot(court);
        snapshot.addOutput();
        snapshot.addTexts();
        return snapshot.state();
    }

    /** The same without the output, the error position and the failed command, which undo leaves alone. */
    static String ofState(LanternCourt court) {
        return new Snapshot(court).state();
    }

    private String state() {
        addSums();
        for (int i = -1; i <= court.lanternCount(); i++) {
            addLantern(i);
        }
        for (int i = -1; i <= court.statementCount(); i++) {
            addStatement(i);
        }
        for (int i = 0; i < court.briefCount(); i++) {
            addBrief(court.briefAt(i));
        }
        return text.toString();
    }

    private void add(String name, Supplier<Object> question) {
        text.append(name).append(' ').append(Check.answer(question)).append('\n');
    }

    private void addOutput() {
        for (int i = 0; i < 64; i++) {
            int index = i;
            add("outputChar " + i, () -> court.outputChar(index));
        }
    }

    private void addTexts() {
        add("errorPosition", court::errorPosition);
        add("failedCommand", court::failedCommand);
        add("undoCount", court::undoCount);
    }

    private void addSums() {
        add("day", court::day);
        add("lanternCount", court::lanternCount);
        add("briefCount", court::briefCount);
        add("planFee", court::planFee);
        add("planFeeBySets", court::planFeeBySets);
        add("statementCount", court::statementCount);
        add("groupCount", court::groupCount);
        add("explanations", court::explanations);
        add("explanationsByTrial", court::explanationsByTrial);
        add("leastFalse", court::leastFalse);
        add("leastFalseBySets", court::leastFalseBySets);
        add("courtCoins", court::courtCoins);
        add("paidBack", court::paidBack);
        for (char verdict : "gium".toCharArray()) {
            add("hearingCount " + verdict, () -> court.hearingCount(verdict));
        }
        add("lapsedCount", court::lapsedCount);
        add("servedDays", court::servedDays);
        add("meanBrightness", court::meanBrightness);
        add("guiltyShare", court::guiltyShare);
        add("isConsistent", court::isConsistent);
    }

    private void addLantern(int i) {
        add("brightness " + i, () -> court.brightness(i));
        add("hasAdmitted guilt " + i, () -> court.hasAdmitted(i, true));
        add("hasAdmitted innocence " + i, () -> court.hasAdmitted(i, false));
        add("sentenceCount " + i, () -> court.sentenceCount(i));
        add("daysLeft " + i, () -> court.daysLeft(i));
        add("daysUntilFree " + i, () -> court.daysUntilFree(i));
        add("isContradictory " + i, () -> court.isContradictory(i));
        add("verdict " + i, () -> court.verdict(i));
        add("verdictByExplanations " + i, () -> court.verdictByExplanations(i));
        add("lanternByBrightness " + i, () -> court.lanternByBrightness(i));
        for (int j = 0; j < court.lanternCount(); j++) {
            int second = j;
            add("relation " + i + " " + j, () -> court.relation(i, second));
        }
    }

    private void addStatement(int i) {
        add("firstOf " + i, () -> court.firstOf(i));
        add("secondOf " + i, () -> court.secondOf(i));
        add("isTogether " + i, () -> court.isTogether(i));
    }

    private void addBrief(int id) {
        add("brief " + id, () -> court.lanternOf(id));
        add("lastDay " + id, () -> court.lastDay(id));
        add("fee " + id, () -> court.fee(id));
        add("severity " + id, () -> court.severity(id));
        add("isInPlan " + id, () -> court.isInPlan(id));
        add("hearingDay " + id, () -> court.hearingDay(id));
    }
}
