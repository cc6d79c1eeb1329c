import java.util.NoSuchElementException;

/** Promises 1 to 10: a new object, and the calls that change it. */
final class SentencesOfChanges {
    private SentencesOfChanges() {
    }

    static void test() {
        newObject();
        addLantern();
        file();
        fileThrows();
        withdraw();
        makeStatement();
        makeStatementThrows();
        dropStatement();
        admit();
        retract();
        passDays();
        pardon();
    }

    private static void newObject() {
        Sentences.of(1, "Creates a court without lanterns, on day 0.", () -> {
            LanternCourt court = new LanternCourt();
            Check.due("lanterns", court::lanternCount, 0);
            Check.due("day", court::day, 0);
            Check.due("briefs", court::briefCount, 0);
            Check.due("statements", court::statementCount, 0);
            Check.due("groups", court::groupCount, 0);
            Check.due("coins", () -> court.courtCoins() + court.paidBack(), 0);
            Check.due("hearings", () -> court.hearingCount('g') + court.hearingCount('i') + court.hearingCount('u') + court.hearingCount('m'), 0);
            Check.due("lapsed", court::lapsedCount, 0);
            Check.due("served", court::servedDays, 0);
            Check.due("plan", court::planFee, 0);
            Check.due("to undo", court::undoCount, 0);
            Check.refuses("nothing saved", court, court::restore, IllegalStateException.class);
            LanternCourt other = new LanternCourt();
            other.addLantern();
            other.passDays(1);
            Check.due("another one's lanterns are not its own", court::lanternCount, 0);
            Check.due("nor are its days", court::day, 0);
        });
    }

    private static void addLantern() {
        Sentences.of(2, "Adds a lantern.", () -> {
            LanternCourt court = Courts.serving(1);
            court.addLantern();
            Check.due("one more", court::lanternCount, 2);
            Check.due("a new one", () -> Check.lantern(court, 1), "1*********");
            Check.due("the others stay", () -> Check.lantern(court, 0), "0********g/8");
            LanternCourt again = Courts.serving(1);
            for (int i = 0; i < 4; i++) {
                again.undo();
            }
            again.addLantern();
            Check.due("new also where one was that is undone", () -> Check.lantern(again, 0), "0*********");
        });
        Sentences.of(2, "Returns the index of the lantern.", () -> {
            LanternCourt court = new LanternCourt();
            for (int i = 0; i < 8; i++) {
                Check.due("index", court::addLantern, i);
            }
        });
        Sentences.of(2, "Throws `IllegalStateException` if there are 8 lanterns", () -> {
            LanternCourt court = Check.courtWith(7);
            Check.due("with 7", court::addLantern, 7);
            Check.refuses("with 8", court, court::addLantern, IllegalStateException.class);
            Check.refuses("once more", court, court::addLantern, IllegalStateException.class);
        });
    }

    private static void file() {
        Sentences.of(3, "Files a brief, which waits.", () -> {
            LanternCourt court = Check.courtWith(1);
            court.file(0, 12, 9, 9);
            Check.due("it waits", court::briefCount, 1);
            Check.due("it is in the plan", () -> court.isInPlan(0), true);
            Check.due("it is not heard yet", () -> court.hearingCount('u'), 0);
        });
        Sentences.of(3, "- `days`: the number of days from the present day to the last day, 1 to 12", () -> {
            LanternCourt court = Check.courtWith(1);
            court.passDays(5);
            Check.due("the least", () -> court.file(0, 1, 1, 1), 0);
            Check.due("the most", () -> court.file(0, 12, 1, 1), 1);
            Check.due("the last day of the least", () -> court.lastDay(0), 6);
            Check.due("the last day of the most", () -> court.lastDay(1), 17);
            fileOutOfRange(court, new int[] {0, 13, -1, Integer.MIN_VALUE, Integer.MAX_VALUE}, 0);
        });
        Sentences.of(3, "- `fee`: the fee, 1 to 50", () -> {
            LanternCourt court = Check.courtWith(1);
            court.file(0, 12, 1, 1);
            court.file(0, 12, 50, 1);
            Check.due("the least and the most", court::courtCoins, 51);
            fileOutOfRange(court, new int[] {0, 51, -1, Integer.MIN_VALUE, Integer.MAX_VALUE}, 1);
        });
        Sentences.of(3, "- `severity`: the severity, 1 to 9", () -> {
            LanternCourt court = Check.courtWith(1);
            court.file(0, 12, 1, 1);
            court.file(0, 12, 1, 9);
            Check.due("the least", () -> court.severity(0), 1);
            Check.due("the most", () -> court.severity(1), 9);
            fileOutOfRange(court, new int[] {0, 10, -1, Integer.MIN_VALUE, Integer.MAX_VALUE}, 2);
        });
        Sentences.of(3, "Returns the id of the brief.", () -> {
            LanternCourt court = Check.courtWith(2);
            for (int i = 0; i < 10; i++) {
                int id = i;
                Check.due("id", () -> court.file(id % 2, 1, 1, 1), id);
            }
            court.passDays(1);
            Check.due("after ten that do not wait any more", () -> court.file(0, 1, 1, 1), 10);
        });
        Arguments.lantern(3, (court, lantern) -> court.file(lantern, 1, 1, 1));
    }

    private static void fileOutOfRange(LanternCourt court, int[] numbers, int argument) {
        for (int number : numbers) {
            int[] arguments = {1, 1, 1};
            arguments[argument] = number;
            Check.refuses("number " + number, court, () -> court.file(0, arguments[0], arguments[1], arguments[2]), IllegalArgumentException.class);
        }
    }

    private static void fileThrows() {
        Sentences.of(3, "Throws `IllegalArgumentException` if the number of days, the fee or the severity is out of range", () -> {
            LanternCourt court = Courts.withEqualBriefs(10, 12, 1);
            int[][] wrong = {{0, 1, 1}, {13, 50, 9}, {1, 0, 1}, {12, 51, 9}, {1, 1, 0}, {12, 50, 10}, {0, 0, 0}, {13, 51, 10}};
            for (int[] w : wrong) {
                Check.refuses("out of range, also if 10 wait", court, () -> court.file(0, w[0], w[1], w[2]), IllegalArgumentException.class);
                Check.refuses("but no lantern comes first", court, () -> court.file(1, w[0], w[1], w[2]), IndexOutOfBoundsException.class);
            }
        });
        Sentences.of(3, "Throws `IllegalStateException` if 10 briefs wait", () -> {
            LanternCourt court = Courts.withEqualBriefs(9, 12, 1);
            Check.due("with 9", () -> court.file(0, 1, 1, 1), 9);
            Check.refuses("with 10", court, () -> court.file(0, 1, 1, 1), IllegalStateException.class);
            Check.refuses("out of range comes first", court, () -> court.file(0, 0, 1, 1), IllegalArgumentException.class);
            Check.refuses("no lantern comes first", court, () -> court.file(1, 1, 1, 1), IndexOutOfBoundsException.class);
            court.withdraw(0);
            Check.due("with 9 again", () -> court.file(0, 1, 1, 1), 10);
            court.undo();
            court.undo();
            Check.refuses("with 10 after undo", court, () -> court.file(0, 1, 1, 1), IllegalStateException.class);
        });
    }

    private static void withdraw() {
        Sentences.of(4, "Withdraws a waiting brief.", () -> {
            LanternCourt court = Courts.withEqualBriefs(10, 12, 2);
            for (int id : new int[] {0, 9, 5}) {
                court.withdraw(id);
                Check.fails("it does not wait any more", () -> court.fee(id), NoSuchElementException.class);
            }
            Check.due("the others wait", () -> Check.plan(court), "1 2 3 4 6 7 8");
            Check.due("it has not lapsed", court::lapsedCount, 0);
        });
        Sentences.of(4, "Half of its fee, rounded down, is paid back.", () -> {
            LanternCourt court = Check.courtWith(1);
            int back = 0;
            int kept = 0;
            int[] fees = {1, 2, 3, 49, 50};
            for (int id = 0; id < fees.length; id++) {
                court.file(0, 12, fees[id], 1);
                court.withdraw(id);
                back += fees[id] / 2;
                kept += fees[id] - fees[id] / 2;
                Check.due("after fee " + fees[id], court::paidBack, back);
                Check.due("kept of it", court::courtCoins, kept);
            }
        });
        Sentences.of(4, "Returns the amount that is paid back.", () -> {
            int[] fees = {1, 2, 3, 49, 50};
            int[] due = {0, 1, 1, 24, 25};
            for (int i = 0; i < fees.length; i++) {
                LanternCourt court = Courts.withEqualBriefs(1, 12, fees[i]);
                Check.due("of " + fees[i], () -> court.withdraw(0), due[i]);
            }
        });
        Arguments.brief(4, LanternCourt::withdraw);
    }

    private static void makeStatement() {
        Sentences.of(5, "Makes a statement about two lanterns.", () -> {
            LanternCourt court = Check.courtWith(8);
            court.makeStatement(7, 0, false);
            Check.due("first", () -> court.firstOf(0), 7);
            Check.due("second", () -> court.secondOf(0), 0);
            Check.due("they are apart", () -> court.relation(0, 7), '-');
            court.makeStatement(7, 0, false);
            Check.due("the same one again is another one", court::statementCount, 2);
        });
        Sentences.of(5, "- `first`: index of a lantern", () -> {
            LanternCourt court = Check.courtWith(8);
            Check.due("the least", () -> court.makeStatement(0, 1, true), 0);
            Check.due("the greatest", () -> court.makeStatement(7, 1, true), 1);
        });
        Sentences.of(5, "- `second`: index of another lantern", () -> {
            LanternCourt court = Check.courtWith(8);
            Check.due("the least", () -> court.makeStatement(1, 0, true), 0);
            Check.due("the greatest", () -> court.makeStatement(1, 7, true), 1);
            Check.refuses("the same", court, () -> court.makeStatement(7, 7, true), IllegalArgumentException.class);
        });
        Sentences.of(5, "- `together`: true for together, false for apart", () -> {
            LanternCourt court = Check.courtWith(2);
            court.makeStatement(0, 1, true);
            court.makeStatement(0, 1, false);
            Check.due("together", () -> court.isTogether(0), true);
            Check.due("apart", () -> court.isTogether(1), false);
        });
        Sentences.of(5, "Returns the index of the statement.", () -> {
            LanternCourt court = Check.courtWith(2);
            for (int i = 0; i < 12; i++) {
                Check.due("index", () -> court.makeStatement(0, 1, true), i);
            }
            court.dropStatement(0);
            Check.due("after one was dropped", () -> court.makeStatement(0, 1, true), 11);
        });
    }

    private static void makeStatementThrows() {
        Sentences.of(5, "Throws `IndexOutOfBoundsException` if there is no such lantern, for either", () -> {
            for (int lanterns : new int[] {0, 2, 8}) {
                LanternCourt court = Courts.serving(lanterns);
                for (int i : new int[] {-1, lanterns, 8, Integer.MIN_VALUE, Integer.MAX_VALUE}) {
                    Check.refuses("first " + i, court, () -> court.makeStatement(i, 0, true), IndexOutOfBoundsException.class);
                    Check.refuses("second " + i, court, () -> court.makeStatement(0, i, true), IndexOutOfBoundsException.class);
                    Check.refuses("both " + i, court, () -> court.makeStatement(i, i, true), IndexOutOfBoundsException.class);
                }
            }
            LanternCourt full = Courts.withStatements(12);
            Check.refuses("when there are 12", full, () -> full.makeStatement(0, 2, true), IndexOutOfBoundsException.class);
        });
        Sentences.of(5, "Throws `IllegalArgumentException` if both are the same lantern", () -> {
            LanternCourt court = Courts.withStatements(12);
            for (int i : new int[] {0, 1}) {
                Check.refuses("lantern " + i + " when there are 12", court, () -> court.makeStatement(i, i, false), IllegalArgumentException.class);
            }
            LanternCourt one = Check.courtWith(1);
            Check.refuses("the only one", one, () -> one.makeStatement(0, 0, true), IllegalArgumentException.class);
        });
        Sentences.of(5, "Throws `IllegalStateException` if there are 12 statements", () -> {
            LanternCourt court = Courts.withStatements(11);
            Check.due("with 11", () -> court.makeStatement(0, 1, true), 11);
            Check.refuses("with 12", court, () -> court.makeStatement(0, 1, true), IllegalStateException.class);
            court.dropStatement(11);
            Check.due("with 11 again", () -> court.makeStatement(1, 0, false), 11);
            Check.refuses("with 12 again", court, () -> court.makeStatement(0, 1, true), IllegalStateException.class);
        });
    }

    private static void dropStatement() {
        Sentences.of(6, "Drops a statement.", () -> {
            for (int dropped : new int[] {0, 5, 11}) {
                LanternCourt court = Check.courtWith(8);
                for (int i = 0; i < 12; i++) {
                    court.makeStatement(i % 8, (i + 1) % 8, i < 6);
                }
                court.dropStatement(dropped);
                for (int i = 0; i < 11; i++) {
                    int index = i;
                    int due = i < dropped ? i : i + 1;
                    Check.due("first of " + i, () -> court.firstOf(index), due % 8);
                    Check.due("second of " + i, () -> court.secondOf(index), (due + 1) % 8);
                    Check.due("sense of " + i, () -> court.isTogether(index), due < 6);
                }
            }
            LanternCourt court = Courts.withStatements(1);
            court.dropStatement(0);
            Check.due("what it said is forgotten", () -> court.relation(0, 1), '?');
        });
        Sentences.of(6, "Returns the number of statements afterwards.", () -> {
            LanternCourt court = Courts.withStatements(12);
            for (int i = 11; i >= 0; i--) {
                Check.due("number", () -> court.dropStatement(0), i);
            }
        });
        Arguments.statement(6, LanternCourt::dropStatement);
    }

    private static void admit() {
        Sentences.of(7, "Lets a lantern admit that it is guilty or innocent, in place of what it admitted before.", () -> {
            LanternCourt court = Check.courtWith(2);
            court.admit(1, true);
            Check.due("guilt", () -> court.verdict(1), 'g');
            court.admit(1, false);
            Check.due("innocence in its place", () -> court.verdict(1), 'i');
            court.admit(1, true);
            Check.due("guilt in its place", () -> court.verdict(1), 'g');
            Check.due("not of another one", () -> court.verdict(0), 'u');
        });
        Sentences.of(7, "- `guilty`: true for guilty, false for innocent", () -> {
            LanternCourt court = Check.courtWith(2);
            court.admit(0, true);
            court.admit(1, false);
            Check.due("true", () -> court.hasAdmitted(0, true) && !court.hasAdmitted(0, false), true);
            Check.due("false", () -> court.hasAdmitted(1, false) && !court.hasAdmitted(1, true), true);
        });
        Sentences.of(7, "Returns true if the lantern had admitted something before.", () -> {
            LanternCourt court = Check.courtWith(2);
            Check.due("nothing before", () -> court.admit(0, false), false);
            Check.due("innocence before", () -> court.admit(0, true), true);
            Check.due("guilt before", () -> court.admit(0, false), true);
            Check.due("nothing before, though another one had", () -> court.admit(1, true), false);
            court.retract(0);
            Check.due("taken back before", () -> court.admit(0, false), false);
        });
        Sentences.of(7, "Throws `IllegalStateException` if it has admitted the same", () -> {
            LanternCourt court = Check.courtWith(2);
            court.admit(0, true);
            court.admit(1, false);
            Check.refuses("guilt twice", court, () -> court.admit(0, true), IllegalStateException.class);
            Check.refuses("innocence twice", court, () -> court.admit(1, false), IllegalStateException.class);
            court.admit(0, false);
            Check.refuses("the latest twice", court, () -> court.admit(0, false), IllegalStateException.class);
            Check.due("the earlier one again", () -> court.admit(0, true), true);
        });
        Arguments.lantern(7, (court, lantern) -> court.admit(lantern, false));
    }

    private static void retract() {
        Sentences.of(8, "Lets a lantern take its admission back.", () -> {
            LanternCourt court = Check.courtWith(2);
            court.admit(0, true);
            court.admit(1, true);
            court.retract(1);
            Check.due("taken back", () -> court.verdict(1), 'u');
            Check.due("nothing is admitted", () -> court.hasAdmitted(1, true) || court.hasAdmitted(1, false), false);
            Check.due("the other one's stays", () -> court.verdict(0), 'g');
        });
        Sentences.of(8, "Returns true if it had admitted that it is guilty.", () -> {
            LanternCourt court = Check.courtWith(1);
            court.admit(0, true);
            Check.due("guilt", () -> court.retract(0), true);
            court.admit(0, false);
            Check.due("innocence", () -> court.retract(0), false);
            court.admit(0, true);
            court.admit(0, false);
            Check.due("innocence in place of guilt", () -> court.retract(0), false);
        });
        Sentences.of(8, "Throws `NoSuchElementException` if it has admitted nothing", () -> {
            LanternCourt court = Check.courtWith(2);
            court.admit(1, true);
            Check.refuses("never", court, () -> court.retract(0), NoSuchElementException.class);
            court.retract(1);
            Check.refuses("not any more", court, () -> court.retract(1), NoSuchElementException.class);
        });
        Arguments.lantern(8, LanternCourt::retract);
    }

    private static void passDays() {
        Sentences.of(9, "Lets days pass, one after the other.", () -> {
            LanternCourt atOnce = Check.courtWith(2);
            LanternCourt singly = Check.courtWith(2);
            for (LanternCourt court : new LanternCourt[] {atOnce, singly}) {
                court.admit(0, true);
                for (int i = 0; i < 10; i++) {
                    court.file(i % 2, 1 + i / 2, 1 + i * 7 % 50, 1 + i % 4);
                }
            }
            int heard = 0;
            for (int i = 0; i < 9; i++) {
                heard += singly.passDays(1);
            }
            Check.due("as many are heard", () -> atOnce.passDays(9), heard);
            Check.sameLines("the state", Snapshot.ofState(atOnce), Snapshot.ofState(singly));
        });
        Sentences.of(9, "- `days`: the number of days, 1 to 9", () -> {
            for (int days = 1; days <= 9; days++) {
                LanternCourt court = new LanternCourt();
                court.passDays(days);
                Check.due("day", court::day, days);
            }
        });
        Sentences.of(9, "Returns the number of briefs that are heard.", () -> {
            Check.due("none", () -> new LanternCourt().passDays(9), 0);
            Check.due("one of ten, the others lapse", () -> Courts.withEqualBriefs(10, 1, 1).passDays(9), 1);
            Check.due("nine of ten", () -> Courts.withEqualBriefs(10, 12, 1).passDays(9), 9);
            Check.due("two of two", () -> Courts.withEqualBriefs(2, 12, 1).passDays(9), 2);
            Check.due("one a day", () -> Courts.withEqualBriefs(2, 12, 1).passDays(1), 1);
        });
        Sentences.of(9, "Throws `IllegalArgumentException` if the number of days is out of range", () -> {
            LanternCourt court = Courts.serving(1);
            for (int days : new int[] {0, 10, -1, Integer.MIN_VALUE, Integer.MAX_VALUE}) {
                Check.refuses(days + " days", court, () -> court.passDays(days), IllegalArgumentException.class);
            }
        });
    }

    private static void pardon() {
        Sentences.of(10, "Ends the sentence that a lantern serves.", () -> {
            LanternCourt court = Courts.foundGuilty(8, 9);
            court.pardon(0);
            Check.due("the first of eight", () -> Check.lantern(court, 0), "0*g/9/9/9/9/9/9/9");
            Check.due("no day of it is served", court::servedDays, 8);
            court.passDays(1);
            Check.due("the next one is served", () -> Check.lantern(court, 0), "0g/8/9/9/9/9/9/9");
            LanternCourt one = Courts.serving(2);
            one.pardon(1);
            Check.due("the only one", () -> Check.lantern(one, 1), "1********g");
            Check.due("another lantern's goes on", () -> Check.lantern(one, 0), "0*******g/7");
            one.passDays(1);
            Check.due("it becomes brighter then", () -> one.brightness(1), 9);
        });
        Sentences.of(10, "Returns the number of days that were left of the sentence.", () -> {
            LanternCourt court = Check.courtWith(1);
            court.admit(0, true);
            for (int severity : new int[] {3, 9, 1}) {
                Check.sentence(court, 0, severity);
            }
            // The first one was over on day 3.
            Check.due("none of its days served", () -> court.pardon(0), 9);
            Check.due("a single day", () -> court.pardon(0), 1);
            Check.due("some of its days served", () -> Courts.foundGuilty(1, 9).pardon(0), 8);
            Check.due("but one served", () -> Courts.foundGuilty(8, 9).pardon(0), 1);
        });
        Sentences.of(10, "Throws `NoSuchElementException` if it serves no sentence", () -> {
            LanternCourt court = Courts.serving(2);
            court.pardon(1);
            Check.refuses("after the only one", court, () -> court.pardon(1), NoSuchElementException.class);
            court.passDays(7);
            Check.refuses("after the last day", court, () -> court.pardon(0), NoSuchElementException.class);
            LanternCourt fresh = Check.courtWith(1);
            fresh.admit(0, true);
            fresh.file(0, 1, 1, 9);
            Check.refuses("before the hearing", fresh, () -> fresh.pardon(0), NoSuchElementException.class);
        });
        Arguments.lantern(10, LanternCourt::pardon);
    }
}
