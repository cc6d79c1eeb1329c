import java.util.Random;
import java.util.function.Supplier;

/** All promises: random runs (always the same ones), in which every answer is that of the model. */
final class ModelTest {
    private static final int RUNS = 150;
    private static final int CHANGES = 120;
    private static final String[] WORDS = {"lantern", "file ", "cancel ", "say ", "drop ", "admit ", "free ", "wait", "wait "};

    private final Random random;
    private final LanternCourt court = new LanternCourt();
    private final Model model = new Model();
    private final String name;
    /** How many of ten arguments are drawn from a range that is a little too wide. */
    private final int wildness;
    private int filed = 0;

    private ModelTest(int seed) {
        random = new Random(seed);
        name = "run " + seed + ": ";
        wildness = seed % 3;
    }

    public static void main(String[] args) {
        for (int seed = 0; seed < RUNS; seed++) {
            new ModelTest(seed).run();
        }
        Check.end();
    }

    private void run() {
        for (int i = 0; i < CHANGES; i++) {
            change();
            compareAll();
        }
    }

    private void same(String call, Supplier<Object> got, Supplier<Object> due) {
        Check.same(name + call, Check.answer(got), Check.answer(due));
    }

    /** A number from low to high, or now and then one beside them. */
    private int draw(int low, int high) {
        int margin = random.nextInt(10) < wildness ? 1 : 0;
        return low - margin + random.nextInt(high - low + 1 + 2 * margin);
    }

    private int drawLantern() {
        return draw(0, Math.max(0, model.lanternCount() - 1));
    }

    private int drawBrief() {
        int count = model.briefCount();
        return count == 0 || random.nextInt(10) == 0 ? draw(0, filed + 1) : model.briefAt(random.nextInt(count));
    }

    private void change() {
        int kind = random.nextInt(100);
        if (model.lanternCount() < 2 || kind < 4) {
            same("addLantern()", court::addLantern, model::addLantern);
        } else if (kind < 30) {
            file();
        } else if (kind < 33) {
            int brief = drawBrief();
            same("withdraw(" + brief + ")", () -> court.withdraw(brief), () -> model.withdraw(brief));
        } else if (kind < 43) {
            makeStatement();
        } else if (kind < 50) {
            int statement = draw(0, Math.max(0, model.statementCount() - 1));
            same("dropStatement(" + statement + ")", () -> court.dropStatement(statement), () -> model.dropStatement(statement));
        } else if (kind < 60) {
            changeAdmission();
        } else if (kind < 72) {
            int days = draw(1, random.nextInt(4) == 0 ? 9 : 2);
            same("passDays(" + days + ")", () -> court.passDays(days), () -> model.passDays(days));
        } else if (kind < 75) {
            int lantern = drawLantern();
            same("pardon(" + lantern + ")", () -> court.pardon(lantern), () -> model.pardon(lantern));
        } else if (kind < 88) {
            runCommands();
        } else if (kind < 96) {
            same("undo()", court::undo, model::undo);
        } else if (kind < 98) {
            same("save()", court::save, model::save);
        } else {
            same("restore()", court::restore, model::restore);
        }
    }

    private void file() {
        int lantern = drawLantern();
        int days = draw(1, random.nextBoolean() ? 3 : 12);
        int fee = draw(1, random.nextBoolean() ? 3 : 50);
        int severity = draw(1, 9);
        filed++;
        same("file(" + lantern + ", " + days + ", " + fee + ", " + severity + ")",
                () -> court.file(lantern, days, fee, severity), () -> model.file(lantern, days, fee, severity));
    }

    private void makeStatement() {
        int first = drawLantern();
        int second = drawLantern();
        boolean together = random.nextBoolean();
        same("makeStatement(" + first + ", " + second + ", " + together + ")",
                () -> court.makeStatement(first, second, together), () -> model.makeStatement(first, second, together));
    }

    private void changeAdmission() {
        int lantern = drawLantern();
        boolean guilty = random.nextInt(3) > 0;
        if (random.nextInt(3) == 0) {
            same("retract(" + lantern + ")", () -> court.retract(lantern), () -> model.retract(lantern));
        } else {
            same("admit(" + lantern + ", " + guilty + ")", () -> court.admit(lantern, guilty), () -> model.admit(lantern, guilty));
        }
    }

    private void runCommands() {
        String text = drawText();
        for (char character : text.toCharArray()) {
            same("feed(" + (int) character + ")", () -> court.feed(character), () -> model.feed(character));
        }
        same("runCommands() of \"" + text + "\"", court::runCommands, model::runCommands);
    }

    private String drawText() {
        StringBuilder text = new StringBuilder(drawCommand());
        for (int i = random.nextInt(4); i > 0; i--) {
            text.append(';').append(drawCommand());
        }
        if (random.nextInt(4) == 0) {
            int place = random.nextInt(text.length());
            String[] strays = {"", "", " ", ";", "0", "7", "f", "g", "+", "x", "\u00e9", "\u0663"};
            String stray = strays[random.nextInt(strays.length)];
            text.replace(place, place + random.nextInt(2), stray);
        }
        if (random.nextInt(12) == 0) {
            text.setLength(random.nextInt(text.length() + 1));
        }
        return text.substring(0, Math.min(text.length(), 61));
    }

    private String drawCommand() {
        String word = WORDS[random.nextInt(WORDS.length)];
        return switch (word) {
            case "file " -> word + drawLantern() + " " + draw(1, 12) + " " + draw(1, 50) + " " + draw(1, 9);
            case "cancel " -> word + drawBrief();
            case "say " -> word + drawLantern() + drawLantern() + (random.nextBoolean() ? "+" : "-");
            case "drop " -> word + draw(0, Math.max(0, model.statementCount() - 1));
            case "admit " -> word + drawLantern() + (random.nextInt(3) > 0 ? " g" : " i");
            case "free " -> word + drawLantern();
            case "wait " -> word + draw(1, 4);
            default -> word;
        };
    }

    private void compareAll() {
        same("day()", court::day, model::day);
        same("lanternCount()", court::lanternCount, model::lanternCount);
        same("briefCount()", court::briefCount, model::briefCount);
        same("planFee()", court::planFee, model::planFee);
        same("planFeeBySets()", court::planFeeBySets, model::planFee);
        same("statementCount()", court::statementCount, model::statementCount);
        same("groupCount()", court::groupCount, model::groupCount);
        same("explanations()", court::explanations, model::explanations);
        same("explanationsByTrial()", court::explanationsByTrial, model::explanations);
        same("leastFalse()", court::leastFalse, model::leastFalse);
        same("leastFalseBySets()", court::leastFalseBySets, model::leastFalse);
        same("courtCoins()", court::courtCoins, model::courtCoins);
        same("paidBack()", court::paidBack, model::paidBack);
        same("lapsedCount()", court::lapsedCount, model::lapsedCount);
        same("servedDays()", court::servedDays, model::servedDays);
        same("meanBrightness()", court::meanBrightness, model::meanBrightness);
        same("guiltyShare()", court::guiltyShare, model::guiltyShare);
        same("isConsistent()", court::isConsistent, () -> true);
        same("errorPosition()", court::errorPosition, model::errorPosition);
        same("failedCommand()", court::failedCommand, model::failedCommand);
        same("undoCount()", court::undoCount, model::undoCount);
        for (char verdict : "giumx".toCharArray()) {
            same("hearingCount(" + verdict + ")", () -> court.hearingCount(verdict), () -> model.hearingCount(verdict));
        }
        for (int i = -1; i <= model.lanternCount(); i++) {
            compareLantern(i);
        }
        for (int i = -1; i <= model.statementCount(); i++) {
            compareStatement(i);
        }
        for (int i = -1; i <= model.briefCount(); i++) {
            int position = i;
            same("briefAt(" + i + ")", () -> court.briefAt(position), () -> model.briefAt(position));
        }
        for (int i = 0; i < model.briefCount(); i++) {
            compareBrief(model.briefAt(i));
        }
        compareBrief(drawBrief());
        compareOutput();
    }

    private void compareLantern(int i) {
        same("brightness(" + i + ")", () -> court.brightness(i), () -> model.brightness(i));
        same("hasAdmitted(" + i + ", true)", () -> court.hasAdmitted(i, true), () -> model.hasAdmitted(i, true));
        same("hasAdmitted(" + i + ", false)", () -> court.hasAdmitted(i, false), () -> model.hasAdmitted(i, false));
        same("sentenceCount(" + i + ")", () -> court.sentenceCount(i), () -> model.sentenceCount(i));
        same("daysLeft(" + i + ")", () -> court.daysLeft(i), () -> model.daysLeft(i));
        same("daysUntilFree(" + i + ")", () -> court.daysUntilFree(i), () -> model.daysUntilFree(i));
        same("isContradictory(" + i + ")", () -> court.isContradictory(i), () -> model.isContradictory(i));
        same("verdict(" + i + ")", () -> court.verdict(i), () -> model.verdict(i));
        same("verdictByExplanations(" + i + ")", () -> court.verdictByExplanations(i), () -> model.verdict(i));
        same("lanternByBrightness(" + i + ")", () -> court.lanternByBrightness(i), () -> model.lanternByBrightness(i));
        for (int j = -1; j <= model.lanternCount(); j++) {
            int second = j;
            same("relation(" + i + ", " + j + ")", () -> court.relation(i, second), () -> model.relation(i, second));
        }
    }

    private void compareStatement(int i) {
        same("firstOf(" + i + ")", () -> court.firstOf(i), () -> model.firstOf(i));
        same("secondOf(" + i + ")", () -> court.secondOf(i), () -> model.secondOf(i));
        same("isTogether(" + i + ")", () -> court.isTogether(i), () -> model.isTogether(i));
    }

    private void compareBrief(int id) {
        same("lanternOf(" + id + ")", () -> court.lanternOf(id), () -> model.lanternOf(id));
        same("lastDay(" + id + ")", () -> court.lastDay(id), () -> model.lastDay(id));
        same("fee(" + id + ")", () -> court.fee(id), () -> model.fee(id));
        same("severity(" + id + ")", () -> court.severity(id), () -> model.severity(id));
        same("isInPlan(" + id + ")", () -> court.isInPlan(id), () -> model.isInPlan(id));
        same("hearingDay(" + id + ")", () -> court.hearingDay(id), () -> model.hearingDay(id));
    }

    private void compareOutput() {
        if (random.nextBoolean()) {
            int lantern = drawLantern();
            same("writeLantern(" + lantern + ")", () -> court.writeLantern(lantern), () -> model.writeLantern(lantern));
        } else {
            same("writePlan()", court::writePlan, model::writePlan);
        }
        // One index beyond the end, which the model finds by its exception.
        for (int i = -1; i < 64; i++) {
            int index = i;
            String due = Check.answer(() -> model.outputChar(index));
            Check.same(name + "outputChar(" + i + ")", Check.answer(() -> court.outputChar(index)), due);
            if (i >= 0 && due.startsWith("throws")) {
                break;
            }
        }
    }
}
