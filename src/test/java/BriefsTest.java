import java.util.NoSuchElementException;

/** Promises 3, 4, 9, 18 to 27, 42 to 46 and 48: briefs, the plan, passing days, and sums. */
final class BriefsTest {
    public static void main(String[] args) {
        fileAnswers();
        fileRanges();
        fileOrderOfExceptions();
        withdraw();
        passDays();
        verdictsOfHearings();
        lapses();
        briefAt();
        questionsAboutBriefs();
        planOrder();
        planByFees();
        planTies();
        planAfterEachChange();
        planFees();
        sums();
        guiltyShare();
        Check.end();
    }

    private static void fileAnswers() {
        LanternCourt court = Check.courtWith(2);
        for (int i = 0; i < 10; i++) {
            int id = i;
            Check.due("3: brief " + i, () -> court.file(id % 2, 12, 5, 3), id);
        }
        Check.fails("3: eleventh", () -> court.file(0, 1, 1, 1), IllegalStateException.class);
        Check.due("3: fees are paid at once", court::courtCoins, 50);
        court.withdraw(3);
        Check.due("3: ids are not used again", () -> court.file(0, 1, 1, 1), 10);
        Check.fails("3: full again", () -> court.file(0, 1, 1, 1), IllegalStateException.class);
        court.withdraw(10);
        Check.due("3: nor is the latest id", () -> court.file(0, 1, 1, 1), 11);
    }

    private static void fileRanges() {
        LanternCourt court = Check.courtWith(1);
        Check.fails("3: 0 days", () -> court.file(0, 0, 1, 1), IllegalArgumentException.class);
        Check.fails("3: 13 days", () -> court.file(0, 13, 1, 1), IllegalArgumentException.class);
        Check.fails("3: fee 0", () -> court.file(0, 1, 0, 1), IllegalArgumentException.class);
        Check.fails("3: fee 51", () -> court.file(0, 1, 51, 1), IllegalArgumentException.class);
        Check.fails("3: severity 0", () -> court.file(0, 1, 1, 0), IllegalArgumentException.class);
        Check.fails("3: severity 10", () -> court.file(0, 1, 1, 10), IllegalArgumentException.class);
        Check.fails("3: lantern 1", () -> court.file(1, 1, 1, 1), IndexOutOfBoundsException.class);
        Check.fails("3: lantern -1", () -> court.file(-1, 1, 1, 1), IndexOutOfBoundsException.class);
        Check.due("3: nothing filed", court::briefCount, 0);
        Check.due("3: nothing paid", court::courtCoins, 0);
        Check.due("3: the least", () -> court.file(0, 1, 1, 1), 0);
        Check.due("3: the most", () -> court.file(0, 12, 50, 9), 1);
    }

    private static void fileOrderOfExceptions() {
        LanternCourt court = Check.courtWith(1);
        for (int i = 0; i < 10; i++) {
            court.file(0, 1, 1, 1);
        }
        Check.fails("3: lantern first", () -> court.file(1, 0, 1, 1), IndexOutOfBoundsException.class);
        Check.fails("3: then ranges", () -> court.file(0, 1, 1, 0), IllegalArgumentException.class);
        Check.fails("3: then the number", () -> court.file(0, 1, 1, 1), IllegalStateException.class);
    }

    private static void withdraw() {
        LanternCourt court = Check.courtWith(1);
        Check.fails("4: no brief", () -> court.withdraw(0), NoSuchElementException.class);
        court.file(0, 5, 7, 1);
        court.file(0, 5, 8, 1);
        court.file(0, 5, 1, 1);
        Check.due("4: odd fee", () -> court.withdraw(0), 3);
        Check.due("4: even fee", () -> court.withdraw(1), 4);
        Check.due("4: fee 1", () -> court.withdraw(2), 0);
        Check.due("4: paid back", court::paidBack, 7);
        Check.due("4: kept", court::courtCoins, 9);
        Check.due("4: none waits", court::briefCount, 0);
        Check.due("4: none has lapsed", court::lapsedCount, 0);
        Check.fails("4: twice", () -> court.withdraw(0), NoSuchElementException.class);
        Check.fails("4: negative id", () -> court.withdraw(-1), NoSuchElementException.class);
        court.file(0, 5, 1, 1);
        court.passDays(1);
        Check.fails("4: heard", () -> court.withdraw(3), NoSuchElementException.class);
    }

    private static void passDays() {
        LanternCourt court = Check.courtWith(1);
        Check.fails("9: 0 days", () -> court.passDays(0), IllegalArgumentException.class);
        Check.fails("9: -1 days", () -> court.passDays(-1), IllegalArgumentException.class);
        Check.fails("9: 10 days", () -> court.passDays(10), IllegalArgumentException.class);
        Check.due("9: no day has passed", court::day, 0);
        Check.due("9: 1 day", () -> court.passDays(1), 0);
        Check.due("9: 9 days", () -> court.passDays(9), 0);
        Check.due("9: 10 days have passed", court::day, 10);
        court.file(0, 2, 5, 1);
        court.file(0, 2, 6, 1);
        court.file(0, 2, 7, 1);
        court.file(0, 8, 7, 1);
        Check.due("9: one lapses, three are heard", () -> court.passDays(9), 3);
        Check.due("9: hearings", () -> court.hearingCount('u'), 3);
        Check.due("9: lapses", court::lapsedCount, 1);
        Check.due("9: the day", court::day, 19);
    }

    private static void verdictsOfHearings() {
        LanternCourt court = Check.courtWith(5);
        court.admit(0, true);
        court.admit(1, false);
        court.makeStatement(3, 4, true);
        court.makeStatement(3, 4, false);
        court.file(0, 1, 9, 4);
        court.file(1, 2, 9, 4);
        court.file(2, 3, 9, 4);
        court.file(3, 4, 9, 4);
        Check.due("9: all heard", () -> court.passDays(4), 4);
        for (char verdict : new char[] {'g', 'i', 'u', 'm'}) {
            Check.due("44: hearings with " + verdict, () -> court.hearingCount(verdict), 1);
        }
        for (char verdict : new char[] {'G', 'x', ' ', (char) 0, (char) 65535}) {
            Check.fails("44: no verdict " + (int) verdict, () -> court.hearingCount(verdict), IllegalArgumentException.class);
        }
        Check.due("9: only the guilty one serves, from the day of its hearing", court::servedDays, 4);
        Check.due("9: half is paid back for a mistrial", court::paidBack, 4);
        Check.due("42: the rest is kept", court::courtCoins, 32);
        Check.due("9: the innocent one", () -> court.sentenceCount(1), 0);
        Check.due("9: the verdict at that time decides", () -> court.retract(0), true);
        court.file(0, 1, 9, 4);
        court.passDays(1);
        Check.due("44: undecided now", () -> court.hearingCount('u'), 2);
    }

    private static void lapses() {
        LanternCourt court = Check.courtWith(1);
        court.file(0, 1, 9, 1);
        court.file(0, 1, 8, 1);
        court.file(0, 1, 3, 1);
        court.file(0, 2, 2, 1);
        court.passDays(1);
        Check.due("45: two have lapsed", court::lapsedCount, 2);
        Check.due("43: whole fees", court::paidBack, 11);
        Check.due("18: one waits", court::briefCount, 1);
        Check.due("19: which", () -> court.briefAt(0), 3);
        court.passDays(1);
        Check.due("45: it was heard on its last day", court::lapsedCount, 2);
        Check.due("44: two hearings", () -> court.hearingCount('u'), 2);
    }

    private static void briefAt() {
        LanternCourt court = Check.courtWith(1);
        Check.due("18: none", court::briefCount, 0);
        Check.fails("19: none", () -> court.briefAt(0), NoSuchElementException.class);
        court.file(0, 9, 1, 1);
        court.file(0, 3, 5, 1);
        court.file(0, 6, 9, 1);
        Check.due("18: three", court::briefCount, 3);
        Check.due("19: first", () -> court.briefAt(0), 0);
        Check.due("19: last", () -> court.briefAt(2), 2);
        Check.fails("19: position 3", () -> court.briefAt(3), NoSuchElementException.class);
        Check.fails("19: position -1", () -> court.briefAt(-1), NoSuchElementException.class);
        court.withdraw(1);
        Check.due("18: two", court::briefCount, 2);
        Check.due("19: after a gap", () -> court.briefAt(1), 2);
    }

    private static void questionsAboutBriefs() {
        LanternCourt court = Check.courtWith(3);
        court.passDays(5);
        court.file(2, 12, 50, 9);
        court.file(1, 1, 1, 1);
        court.file(0, 3, 20, 4);
        Check.due("20: lantern", () -> court.lanternOf(0), 2);
        Check.due("21: last day", () -> court.lastDay(0), 17);
        Check.due("22: fee", () -> court.fee(0), 50);
        Check.due("23: severity", () -> court.severity(0), 9);
        court.withdraw(1);
        Check.due("20: lantern after a gap", () -> court.lanternOf(2), 0);
        Check.due("21: last day after a gap", () -> court.lastDay(2), 8);
        Check.due("22: fee after a gap", () -> court.fee(2), 20);
        Check.due("23: severity after a gap", () -> court.severity(2), 4);
        for (int brief : new int[] {-1, 1, 3}) {
            Check.fails("20: brief " + brief, () -> court.lanternOf(brief), NoSuchElementException.class);
            Check.fails("21: brief " + brief, () -> court.lastDay(brief), NoSuchElementException.class);
            Check.fails("22: brief " + brief, () -> court.fee(brief), NoSuchElementException.class);
            Check.fails("23: brief " + brief, () -> court.severity(brief), NoSuchElementException.class);
            Check.fails("24: brief " + brief, () -> court.isInPlan(brief), NoSuchElementException.class);
            Check.fails("25: brief " + brief, () -> court.hearingDay(brief), NoSuchElementException.class);
        }
    }

    private static void planOrder() {
        LanternCourt court = Check.courtWith(1);
        court.passDays(3);
        court.file(0, 9, 50, 1);
        court.file(0, 4, 3, 1);
        court.file(0, 9, 1, 1);
        court.file(0, 2, 2, 1);
        Check.due("25: last days, then ids", () -> Check.plan(court), "3 1 0 2");
        Check.due("25: first", () -> court.hearingDay(3), 4);
        Check.due("25: second", () -> court.hearingDay(1), 5);
        Check.due("25: third", () -> court.hearingDay(0), 6);
        Check.due("25: fourth", () -> court.hearingDay(2), 7);
        court.passDays(1);
        Check.due("25: the plan moves on", () -> Check.plan(court), "1 0 2");
        Check.due("25: but not the day of a hearing", () -> court.hearingDay(1), 5);
    }

    private static void planByFees() {
        LanternCourt court = Check.courtWith(1);
        court.file(0, 1, 10, 1);
        court.file(0, 2, 20, 1);
        court.file(0, 2, 30, 1);
        court.file(0, 3, 1, 1);
        Check.due("24: too cheap", () -> court.isInPlan(0), false);
        Check.fails("25: not in the plan", () -> court.hearingDay(0), NoSuchElementException.class);
        Check.due("24: dear", () -> court.isInPlan(1), true);
        Check.due("24: cheap, but there is a day left", () -> court.isInPlan(3), true);
        Check.due("24: the plan", () -> Check.plan(court), "1 2 3");
        court.withdraw(2);
        Check.due("24: taken in", () -> court.isInPlan(0), true);
        Check.due("24: the plan then", () -> Check.plan(court), "0 1 3");
    }

    private static void planTies() {
        LanternCourt court = Check.courtWith(1);
        court.file(0, 2, 5, 1);
        court.file(0, 2, 5, 1);
        court.file(0, 2, 5, 1);
        court.file(0, 1, 5, 1);
        Check.due("24: earlier last day, then lower id", () -> Check.plan(court), "3 0");
        court.withdraw(3);
        Check.due("24: lower ids", () -> Check.plan(court), "0 1");
    }

    /** Each question finds the plan anew, whatever was asked before. */
    private static void planAfterEachChange() {
        LanternCourt court = Check.courtWith(1);
        court.file(0, 1, 5, 1);
        Check.due("27: one brief", court::planFeeBySets, 5);
        court.file(0, 1, 6, 1);
        Check.due("27: a dearer one", court::planFeeBySets, 6);
        Check.due("25: the dearer one", () -> court.hearingDay(1), 1);
        court.file(0, 1, 7, 1);
        Check.fails("25: no more", () -> court.hearingDay(1), NoSuchElementException.class);
        Check.due("24: the dearest one", () -> court.isInPlan(2), true);
        court.file(0, 1, 8, 1);
        Check.due("24: no more", () -> court.isInPlan(2), false);
        court.withdraw(3);
        Check.due("26: the dearest that waits", court::planFee, 7);
        court.withdraw(2);
        Check.due("25: again", () -> court.hearingDay(1), 1);
        court.undo();
        Check.due("55: undone", () -> Check.plan(court), "2");
    }

    private static void planFees() {
        LanternCourt court = Check.courtWith(1);
        Check.due("26: none", court::planFee, 0);
        Check.due("27: none", court::planFeeBySets, 0);
        court.file(0, 1, 10, 1);
        court.file(0, 1, 50, 1);
        court.file(0, 2, 7, 1);
        court.file(0, 2, 49, 1);
        court.file(0, 3, 1, 1);
        Check.due("26: greatest", court::planFee, 100);
        Check.due("27: greatest", court::planFeeBySets, 100);
        for (int i = 0; i < 5; i++) {
            court.file(0, 12, 50, 1);
        }
        Check.due("26: ten briefs", court::planFee, 350);
        Check.due("27: ten briefs", court::planFeeBySets, 350);
        court.passDays(2);
        Check.due("26: later", court::planFee, 251);
        Check.due("27: later", court::planFeeBySets, 251);
    }

    private static void sums() {
        LanternCourt court = Check.courtWith(2);
        court.admit(0, true);
        court.file(0, 1, 11, 2);
        court.file(1, 1, 5, 2);
        court.file(1, 9, 9, 2);
        Check.due("42: all fees", court::courtCoins, 25);
        Check.due("43: nothing yet", court::paidBack, 0);
        Check.due("45: nothing yet", court::lapsedCount, 0);
        Check.due("46: nothing yet", court::servedDays, 0);
        court.withdraw(2);
        court.passDays(1);
        Check.due("42: kept", court::courtCoins, 16);
        Check.due("43: half of 9 and all of 5", court::paidBack, 9);
        Check.due("45: one", court::lapsedCount, 1);
        Check.due("46: one day", court::servedDays, 1);
        court.passDays(9);
        Check.due("46: the sentence is over", court::servedDays, 2);
        Check.due("44: none", () -> court.hearingCount('m'), 0);
    }

    private static void guiltyShare() {
        LanternCourt court = Check.courtWith(2);
        Check.fails("48: no hearing", court::guiltyShare, ArithmeticException.class);
        court.file(0, 1, 1, 1);
        court.passDays(1);
        Check.due("48: none guilty", court::guiltyShare, 0.0f);
        court.admit(1, true);
        court.file(1, 1, 1, 1);
        court.passDays(1);
        court.file(0, 1, 1, 1);
        court.passDays(1);
        Check.due("48: a third", court::guiltyShare, 1.0f / 3.0f);
    }
}
