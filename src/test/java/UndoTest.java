/** Promises 57 to 60: undo, save and restore. */
final class UndoTest {
    public static void main(String[] args) {
        whatIsRecorded();
        whatIsNotRecorded();
        whatIsUndone();
        briefsComeBack();
        atMostEight();
        undoAfterUndo();
        undoDays();
        save();
        restore();
        restoreAll();
        Check.end();
    }

    private static void whatIsRecorded() {
        LanternCourt court = new LanternCourt();
        Check.due("57: new", court::undoCount, 0);
        Check.fails("58: new", court::undo, IllegalStateException.class);
        court.addLantern();
        court.addLantern();
        Check.due("57: addLantern", court::undoCount, 2);
        court.file(0, 1, 50, 9);
        Check.due("57: file", court::undoCount, 3);
        court.admit(0, true);
        Check.due("57: admit", court::undoCount, 4);
        court.passDays(1);
        Check.due("57: passDays", court::undoCount, 5);
        court.pardon(0);
        Check.due("57: pardon", court::undoCount, 6);
        court.retract(0);
        Check.due("57: retract", court::undoCount, 7);
        Check.run(court, "wait");
        Check.due("57: runCommands is one call", court::undoCount, 8);
        court.undo();
        court.undo();
        court.file(0, 1, 1, 1);
        court.undo();
        court.file(0, 5, 1, 1);
        court.withdraw(1);
        Check.due("57: withdraw", court::undoCount, 8);
        for (int i = 0; i < 3; i++) {
            court.undo();
        }
        court.makeStatement(0, 1, true);
        Check.due("57: makeStatement", court::undoCount, 6);
        court.dropStatement(0);
        Check.due("57: dropStatement", court::undoCount, 7);
    }

    private static void whatIsNotRecorded() {
        LanternCourt court = Check.courtWith(1);
        Check.fails("57: a call that throws", () -> court.passDays(0), IllegalArgumentException.class);
        Check.answer(() -> court.file(0, 0, 0, 0));
        Check.answer(() -> court.withdraw(0));
        Check.answer(() -> court.makeStatement(0, 0, true));
        Check.answer(() -> court.dropStatement(0));
        Check.answer(() -> court.admit(1, true));
        Check.answer(() -> court.retract(0));
        Check.answer(() -> court.pardon(0));
        Check.run(court, "wait;free 0");
        Check.run(court, "wai");
        court.feed('w');
        court.save();
        court.writeLantern(0);
        court.writePlan();
        court.isConsistent();
        court.brightness(0);
        Check.due("57: only addLantern", court::undoCount, 1);
        Check.due("58: only addLantern", court::undo, 0);
        Check.due("58: it is undone", court::lanternCount, 0);
        Check.fails("58: undo is not recorded", court::undo, IllegalStateException.class);
    }

    private static void whatIsUndone() {
        LanternCourt court = Check.courtWith(2);
        court.file(0, 9, 9, 9);
        court.withdraw(0);
        Check.due("58: withdraw", court::undo, 3);
        Check.due("58: the brief waits", () -> court.fee(0), 9);
        Check.due("58: nothing is paid back", court::paidBack, 0);
        court.undo();
        Check.due("58: nothing is paid", court::courtCoins, 0);
        Check.due("58: the id is free", () -> court.file(1, 1, 1, 1), 0);
        court.makeStatement(0, 1, true);
        court.dropStatement(0);
        court.undo();
        Check.due("58: the statement", () -> court.isTogether(0), true);
        court.undo();
        Check.due("58: no statement", court::statementCount, 0);
        court.admit(1, true);
        court.admit(1, false);
        court.undo();
        Check.due("58: the earlier admission", () -> court.hasAdmitted(1, true), true);
        court.retract(1);
        court.undo();
        Check.due("58: the admission again", () -> court.hasAdmitted(1, true), true);
        Check.run(court, "lantern;lantern;wait 4");
        court.undo();
        Check.due("58: all commands", court::lanternCount, 2);
        Check.due("58: and days", court::day, 0);
    }

    private static void briefsComeBack() {
        LanternCourt court = Check.courtWith(2);
        court.file(0, 9, 8, 7);
        court.file(1, 3, 4, 5);
        court.withdraw(0);
        court.undo();
        Check.due("58: lantern of the first", () -> court.lanternOf(0), 0);
        Check.due("58: last day of the first", () -> court.lastDay(0), 9);
        Check.due("58: fee of the first", () -> court.fee(0), 8);
        Check.due("58: severity of the first", () -> court.severity(0), 7);
        Check.due("58: lantern of the second", () -> court.lanternOf(1), 1);
        Check.due("58: last day of the second", () -> court.lastDay(1), 3);
        Check.due("58: fee of the second", () -> court.fee(1), 4);
        Check.due("58: severity of the second", () -> court.severity(1), 5);
        Check.due("58: both wait", court::briefCount, 2);
    }

    private static void atMostEight() {
        LanternCourt court = new LanternCourt();
        for (int i = 1; i <= 20; i++) {
            court.passDays(1);
            Check.due("57: after " + i, court::undoCount, Math.min(i, 8));
        }
        for (int i = 7; i >= 0; i--) {
            Check.due("58: undo", court::undo, i);
            Check.due("58: day", court::day, 12 + i);
        }
        Check.fails("58: no more", court::undo, IllegalStateException.class);
        Check.due("58: day 12", court::day, 12);
    }

    private static void undoAfterUndo() {
        LanternCourt court = new LanternCourt();
        court.passDays(1);
        court.passDays(2);
        court.passDays(3);
        court.undo();
        court.passDays(9);
        Check.due("58: three calls", court::undoCount, 3);
        court.undo();
        Check.due("58: back to day 3", court::day, 3);
        court.undo();
        Check.due("58: back to day 1", court::day, 1);
    }

    private static void undoDays() {
        LanternCourt court = Check.courtWith(2);
        court.admit(0, true);
        court.file(0, 1, 9, 9);
        court.file(1, 1, 7, 9);
        court.file(1, 3, 7, 9);
        court.passDays(2);
        Check.due("58: before", () -> Check.lantern(court, 0), "0*******g/7");
        court.undo();
        Check.due("58: lantern", () -> Check.lantern(court, 0), "0*********g");
        Check.due("58: briefs", court::briefCount, 3);
        Check.due("58: hearings", () -> court.hearingCount('g'), 0);
        Check.due("58: lapsed", court::lapsedCount, 0);
        Check.due("58: served", court::servedDays, 0);
        Check.due("58: paid back", court::paidBack, 0);
        court.passDays(1);
        court.pardon(0);
        court.undo();
        Check.due("58: pardon", () -> court.daysLeft(0), 8);
    }

    private static void save() {
        LanternCourt court = new LanternCourt();
        Check.due("59: empty", court::save, 0);
        court.addLantern();
        court.addLantern();
        Check.due("59: in place of the earlier one", court::save, 2);
        Check.due("59: undo stays possible", court::undoCount, 2);
        court.undo();
        court.undo();
        Check.due("60: undo does not undo save", court::restore, 2);
    }

    private static void restore() {
        LanternCourt court = new LanternCourt();
        Check.fails("60: nothing saved", court::restore, IllegalStateException.class);
        court.addLantern();
        court.save();
        court.addLantern();
        court.passDays(3);
        Check.due("60: lanterns", court::restore, 1);
        Check.due("60: day", court::day, 0);
        Check.due("60: nothing to undo", court::undoCount, 0);
        Check.fails("60: nothing to undo", court::undo, IllegalStateException.class);
        court.passDays(5);
        Check.due("60: saved state is kept", court::restore, 1);
        Check.due("60: day again", court::day, 0);
        court.passDays(1);
        Check.due("60: undo after restore", court::undo, 0);
    }

    private static void restoreAll() {
        LanternCourt court = Check.courtWith(3);
        court.admit(0, true);
        court.makeStatement(0, 1, false);
        court.file(0, 1, 9, 5);
        court.file(2, 1, 8, 5);
        court.file(2, 9, 7, 5);
        court.passDays(1);
        court.save();
        court.passDays(9);
        court.dropStatement(0);
        court.retract(0);
        court.file(0, 1, 1, 1);
        court.makeStatement(1, 2, true);
        court.addLantern();
        Check.due("60: lanterns", court::restore, 3);
        Check.due("60: lantern 0", () -> Check.lantern(court, 0), "0********g/4");
        Check.due("60: briefs", () -> Check.plan(court), "2");
        Check.due("60: statements", court::statementCount, 1);
        Check.due("60: a statement", () -> court.relation(0, 1), '-');
        Check.due("60: coins", court::courtCoins, 16);
        Check.due("60: paid back", court::paidBack, 8);
        Check.due("60: hearings", () -> court.hearingCount('g'), 1);
        Check.due("60: no other hearings", () -> court.hearingCount('u'), 0);
        Check.due("60: lapsed", court::lapsedCount, 1);
        Check.due("60: served", court::servedDays, 1);
        Check.due("60: day", court::day, 1);
        Check.due("60: next id", () -> court.file(0, 1, 1, 1), 3);
    }
}
