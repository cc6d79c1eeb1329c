import java.util.NoSuchElementException;

/** Promises 1, 2, 7, 8, 10 to 17, 41, 47: lanterns, admissions, sentences and brightness. */
final class LanternsTest {
    public static void main(String[] args) {
        newObject();
        addLantern();
        admit();
        retract();
        pardon();
        dayAndCount();
        brightness();
        hasAdmitted();
        sentences();
        atMostEightSentences();
        lanternByBrightness();
        equalBrightness();
        meanBrightness();
        Check.end();
    }

    private static void newObject() {
        LanternCourt court = new LanternCourt();
        Check.due("1: day of a new court", court::day, 0);
        Check.due("1: lanterns of a new court", court::lanternCount, 0);
        Check.due("1: briefs of a new court", court::briefCount, 0);
        Check.due("1: statements of a new court", court::statementCount, 0);
        Check.due("1: coins of a new court", court::courtCoins, 0);
        Check.due("1: undoable calls of a new court", court::undoCount, 0);
    }

    private static void addLantern() {
        LanternCourt court = new LanternCourt();
        for (int i = 0; i < 8; i++) {
            Check.due("2: lantern " + i, court::addLantern, i);
        }
        Check.fails("2: ninth lantern", court::addLantern, IllegalStateException.class);
        Check.due("2: count after the ninth", court::lanternCount, 8);
        Check.due("2: undo", court::undo, 7);
        Check.due("2: lantern 7 again", court::addLantern, 7);
    }

    private static void admit() {
        LanternCourt court = Check.courtWith(2);
        Check.due("7: first admission", () -> court.admit(1, true), false);
        Check.fails("7: the same again", () -> court.admit(1, true), IllegalStateException.class);
        Check.due("7: the opposite", () -> court.admit(1, false), true);
        Check.fails("7: the same innocence", () -> court.admit(1, false), IllegalStateException.class);
        Check.due("7: in its place", () -> court.hasAdmitted(1, true), false);
        Check.due("7: innocence first", () -> court.admit(0, false), false);
        Check.fails("7: lantern -1", () -> court.admit(-1, true), IndexOutOfBoundsException.class);
        Check.fails("7: lantern 2", () -> court.admit(2, true), IndexOutOfBoundsException.class);
    }

    private static void retract() {
        LanternCourt court = Check.courtWith(2);
        Check.fails("8: nothing admitted", () -> court.retract(0), NoSuchElementException.class);
        court.admit(0, true);
        court.admit(1, false);
        Check.due("8: guilt", () -> court.retract(0), true);
        Check.due("8: innocence", () -> court.retract(1), false);
        Check.due("8: no guilt left", () -> court.hasAdmitted(0, true), false);
        Check.due("8: no innocence left", () -> court.hasAdmitted(1, false), false);
        Check.fails("8: twice", () -> court.retract(0), NoSuchElementException.class);
        Check.due("8: admitted anew", () -> court.admit(0, true), false);
        Check.fails("8: lantern -1", () -> court.retract(-1), IndexOutOfBoundsException.class);
        Check.fails("8: lantern 2", () -> court.retract(2), IndexOutOfBoundsException.class);
    }

    private static void pardon() {
        LanternCourt court = Check.courtWith(2);
        Check.fails("10: no sentence", () -> court.pardon(0), NoSuchElementException.class);
        Check.fails("10: lantern -1", () -> court.pardon(-1), IndexOutOfBoundsException.class);
        Check.fails("10: lantern 2", () -> court.pardon(2), IndexOutOfBoundsException.class);
        court.admit(0, true);
        Check.sentence(court, 0, 7);
        Check.sentence(court, 0, 3);
        Check.sentence(court, 0, 5);
        Check.due("10: three sentences", () -> Check.lantern(court, 0), "0******g/4/3/5");
        Check.due("10: first", () -> court.pardon(0), 4);
        Check.due("10: the next are served in their order", () -> Check.lantern(court, 0), "0******g/3/5");
        Check.due("10: days pardoned are not served", court::servedDays, 3);
        Check.due("10: second", () -> court.pardon(0), 3);
        Check.due("10: third", () -> court.pardon(0), 5);
        Check.fails("10: none left", () -> court.pardon(0), NoSuchElementException.class);
    }

    private static void dayAndCount() {
        LanternCourt court = Check.courtWith(3);
        Check.due("12: lanterns", court::lanternCount, 3);
        court.passDays(4);
        court.passDays(9);
        Check.due("11: day", court::day, 13);
    }

    private static void brightness() {
        LanternCourt court = Check.courtWith(2);
        Check.due("13: initially", () -> court.brightness(1), 9);
        court.passDays(1);
        Check.due("13: not above 9", () -> court.brightness(1), 9);
        court.admit(1, true);
        Check.sentence(court, 1, 9);
        Check.sentence(court, 1, 9);
        Check.due("13: after two days", () -> court.brightness(1), 7);
        court.passDays(7);
        Check.due("13: after nine days", () -> court.brightness(1), 0);
        court.passDays(9);
        Check.due("13: not below 0", () -> court.brightness(1), 0);
        court.passDays(1);
        Check.due("13: brighter when free", () -> court.brightness(1), 1);
        court.passDays(9);
        Check.due("13: full again", () -> court.brightness(1), 9);
        Check.due("13: the other one", () -> court.brightness(0), 9);
        Check.fails("13: lantern -1", () -> court.brightness(-1), IndexOutOfBoundsException.class);
        Check.fails("13: lantern 2", () -> court.brightness(2), IndexOutOfBoundsException.class);
    }

    private static void hasAdmitted() {
        LanternCourt court = Check.courtWith(3);
        court.admit(0, true);
        court.admit(1, false);
        Check.due("14: guilt of 0", () -> court.hasAdmitted(0, true), true);
        Check.due("14: innocence of 0", () -> court.hasAdmitted(0, false), false);
        Check.due("14: guilt of 1", () -> court.hasAdmitted(1, true), false);
        Check.due("14: innocence of 1", () -> court.hasAdmitted(1, false), true);
        Check.due("14: guilt of 2", () -> court.hasAdmitted(2, true), false);
        Check.due("14: innocence of 2", () -> court.hasAdmitted(2, false), false);
        Check.fails("14: lantern -1", () -> court.hasAdmitted(-1, true), IndexOutOfBoundsException.class);
        Check.fails("14: lantern 3", () -> court.hasAdmitted(3, true), IndexOutOfBoundsException.class);
    }

    private static void sentences() {
        LanternCourt court = Check.courtWith(2);
        court.admit(1, true);
        Check.due("15: none", () -> court.sentenceCount(1), 0);
        Check.fails("16: none", () -> court.daysLeft(1), NoSuchElementException.class);
        Check.due("17: none", () -> court.daysUntilFree(1), 0);
        Check.sentence(court, 1, 1);
        Check.due("15: served at once", () -> court.sentenceCount(1), 0);
        Check.fails("16: served at once", () -> court.daysLeft(1), NoSuchElementException.class);
        Check.sentence(court, 1, 4);
        Check.sentence(court, 1, 6);
        Check.due("15: two", () -> court.sentenceCount(1), 2);
        Check.due("16: two", () -> court.daysLeft(1), 2);
        Check.due("17: two", () -> court.daysUntilFree(1), 8);
        court.passDays(2);
        Check.due("15: first one over", () -> court.sentenceCount(1), 1);
        Check.due("16: the next one begins a day later", () -> court.daysLeft(1), 6);
        Check.due("17: first one over", () -> court.daysUntilFree(1), 6);
        for (int lantern : new int[] {-1, 2}) {
            Check.fails("15: lantern " + lantern, () -> court.sentenceCount(lantern), IndexOutOfBoundsException.class);
            Check.fails("16: lantern " + lantern, () -> court.daysLeft(lantern), IndexOutOfBoundsException.class);
            Check.fails("17: lantern " + lantern, () -> court.daysUntilFree(lantern), IndexOutOfBoundsException.class);
        }
    }

    private static void atMostEightSentences() {
        LanternCourt court = Check.courtWith(1);
        court.admit(0, true);
        for (int i = 0; i < 9; i++) {
            Check.sentence(court, 0, 9);
        }
        Check.due("15: the ninth was not given before the first one was over", () -> court.sentenceCount(0), 7);
        Check.sentence(court, 0, 8);
        Check.sentence(court, 0, 7);
        Check.due("15: a ninth is not given", () -> court.sentenceCount(0), 8);
        Check.due("15: which ones were given", () -> Check.lantern(court, 0), "0g/7/9/9/9/9/9/9/8");
        Check.due("44: a hearing all the same", () -> court.hearingCount('g'), 11);
        Check.due("17: eight", () -> court.daysUntilFree(0), 69);
    }

    private static void lanternByBrightness() {
        LanternCourt court = Check.courtWith(5);
        Check.fails("41: rank -1", () -> court.lanternByBrightness(-1), NoSuchElementException.class);
        Check.fails("41: rank 5", () -> court.lanternByBrightness(5), NoSuchElementException.class);
        ranks(court, new int[] {0, 1, 2, 3, 4});
        for (int i = 1; i < 5; i++) {
            court.admit(i, true);
        }
        court.file(4, 1, 9, 9);
        court.file(2, 2, 9, 4);
        court.file(3, 3, 9, 9);
        court.passDays(3);
        court.pardon(3);
        // 4 is at 6, 2 at 7, 3 at 8, and 0 and 1 are at 9.
        ranks(court, new int[] {4, 2, 3, 0, 1});
        Check.fails("41: rank 5 later", () -> court.lanternByBrightness(5), NoSuchElementException.class);
        court.file(1, 1, 9, 9);
        court.file(3, 2, 9, 9);
        court.passDays(2);
        Check.due("41: 1 was dimmed twice", () -> Check.lantern(court, 1), "1*******g/7");
        Check.due("41: 3 was brighter before it was dimmed", () -> Check.lantern(court, 3), "3********g/8");
        // 4 is at 4, 2 at 5 without days left, 1 at 7, 3 at 8, 0 at 9.
        ranks(court, new int[] {4, 2, 1, 3, 0});
    }

    private static void equalBrightness() {
        LanternCourt court = Check.courtWith(4);
        for (int i = 0; i < 4; i++) {
            court.admit(i, true);
        }
        court.file(0, 1, 9, 1);
        court.file(1, 2, 9, 3);
        court.file(2, 3, 9, 9);
        court.file(3, 4, 9, 1);
        court.passDays(3);
        // Day 3: 0 is at 9 again; 1 at 7 with 1 day; 2 at 8 with 8 days; 3 at 9 with none
        ranks(court, new int[] {1, 2, 0, 3});
        court.passDays(1);
        // Day 4: 1 at 6 with none; 2 at 7 with 7 days; 3 at 8 with none
        court.passDays(1);
        // Day 5: 1 at 7; 2 at 6 with 6 days; 3 at 9
        ranks(court, new int[] {2, 1, 0, 3});
        court.undo();
        court.undo();
        court.file(3, 1, 50, 9);
        court.passDays(1);
        court.passDays(1);
        // 3 was heard on day 4 by the dearer brief: 7 with 7 days; 1 at 7 with none
        Check.due("41: lantern 1", () -> Check.lantern(court, 1), "1*******g");
        Check.due("41: lantern 3", () -> Check.lantern(court, 3), "3*******g/7");
        ranks(court, new int[] {2, 3, 1, 0});
    }

    private static void ranks(LanternCourt court, int[] due) {
        for (int i = 0; i < due.length; i++) {
            int rank = i;
            Check.due("41: rank " + i, () -> court.lanternByBrightness(rank), due[i]);
        }
    }

    private static void meanBrightness() {
        LanternCourt none = new LanternCourt();
        Check.fails("47: no lanterns", none::meanBrightness, ArithmeticException.class);
        LanternCourt court = Check.courtWith(3);
        Check.due("47: all full", court::meanBrightness, 9.0);
        court.admit(2, true);
        Check.sentence(court, 2, 5);
        Check.due("47: one dimmed", court::meanBrightness, 26.0 / 3.0);
        court.passDays(1);
        Check.due("47: one dimmed twice", court::meanBrightness, 25.0 / 3.0);
        LanternCourt full = Check.courtWith(8);
        full.admit(7, true);
        Check.sentence(full, 7, 1);
        Check.due("47: eight lanterns", full::meanBrightness, 8.875);
        ranks(full, new int[] {7, 0, 1, 2, 3, 4, 5, 6});
        Check.fails("41: rank 8", () -> full.lanternByBrightness(8), NoSuchElementException.class);
    }
}
