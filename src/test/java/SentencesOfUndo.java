import java.util.NoSuchElementException;
import java.util.function.Consumer;

/** The paragraphs "Undo" and "Errors" of "Terms", and promises 57 to 60. */
final class SentencesOfUndo {
    private SentencesOfUndo() {
    }

    static void test() {
        whatIsRecorded();
        atMostEight();
        whatIsNotUndone();
        errors();
        undoCount();
        undo();
        save();
        restore();
    }

    /** Lanterns 0 to 3 serve, briefs 4 and 5 wait, there are 2 statements, a text and an output. */
    private static LanternCourt court() {
        LanternCourt court = Courts.serving(4);
        court.file(0, 5, 9, 9);
        court.file(1, 6, 8, 7);
        court.makeStatement(0, 1, true);
        court.makeStatement(1, 2, false);
        Check.run(court, "wai");
        Check.run(court, "wait;free 9");
        court.writeLantern(1);
        return court;
    }

    private static void run(LanternCourt court, String text) {
        Check.feed(court, text);
        court.runCommands();
    }

    /** The call, on the state that it finds, is one recorded call, and undo brings that state back. */
    private static void isRecorded(String name, Consumer<LanternCourt> call) {
        LanternCourt court = court();
        String before = Snapshot.ofState(court);
        court.undo();
        court.undo();
        run(court, "say 01+;say 12-");
        Check.sameLines("the state before " + name, Snapshot.ofState(court), before);
        Check.due("calls before " + name, court::undoCount, 7);
        call.accept(court);
        Check.due("calls after " + name, court::undoCount, 8);
        Check.due("undo of " + name, court::undo, 7);
        Check.sameLines("the state after undo of " + name, Snapshot.ofState(court), before);
    }

    private static void whatIsRecorded() {
        Sentences.of(0, "The methods addLantern, file, withdraw, makeStatement, dropStatement, admit, retract, passDays, pardon and runCommands are "
                + "recorded when they return normally, even if nothing changes.", () -> {
            isRecorded("addLantern", LanternCourt::addLantern);
            isRecorded("file", court -> court.file(0, 1, 1, 1));
            isRecorded("withdraw", court -> court.withdraw(4));
            isRecorded("makeStatement", court -> court.makeStatement(0, 1, true));
            isRecorded("dropStatement", court -> court.dropStatement(0));
            isRecorded("admit", court -> court.admit(0, false));
            isRecorded("retract", court -> court.retract(0));
            isRecorded("passDays", court -> court.passDays(9));
            isRecorded("pardon", court -> court.pardon(0));
            isRecorded("runCommands", court -> run(court, "lantern;file 4 1 1 1;cancel 5;drop 1;admit 4 g;free 1;wait 9"));
            isRecorded("runCommands of one command", court -> run(court, "wait"));
            isRecorded("runCommands that changes nothing", court -> run(court, "say 01-;drop 2"));
            isRecorded("runCommands that changes nothing", court -> run(court, "admit 0 i;admit 0 g"));
            LanternCourt court = Check.courtWith(1);
            for (String text : new String[] {"", "x", "wait;", "wait;wait 0", "free 0"}) {
                Check.run(court, text);
                Check.due("not recorded: \"" + text + "\"", court::undoCount, 1);
            }
        });
    }

    private static void atMostEight() {
        Sentences.of(0, "At most the 8 latest calls can be undone.", () -> {
            for (int calls : new int[] {7, 8, 9, 15, 16, 17, 40}) {
                LanternCourt court = new LanternCourt();
                for (int i = 0; i < calls; i++) {
                    court.passDays(1);
                }
                int most = Math.min(calls, 8);
                for (int i = 1; i <= most; i++) {
                    int left = most - i;
                    Check.due("undo " + i + " of " + calls, court::undo, left);
                    Check.due("day", court::day, calls - i);
                }
                Check.refuses("one more of " + calls, court, court::undo, IllegalStateException.class);
                court.passDays(9);
                Check.due("a further call", court::undo, 0);
                Check.due("day after it", court::day, calls - most);
            }
        });
    }

    private static void whatIsNotUndone() {
        Sentences.of(0, "The input buffer, the output, the error position and the failed command are not part of the undone or saved state.", () -> {
            for (boolean byUndo : new boolean[] {true, false}) {
                LanternCourt court = Check.courtWith(2);
                Check.run(court, "wai");
                Check.run(court, "free 0");
                court.writeLantern(0);
                Check.feed(court, "w");
                court.save();
                court.passDays(1);
                Check.answer(court::runCommands);
                Check.run(court, "wait;free 0");
                court.writeLantern(1);
                Check.feed(court, "wai");
                Check.due("undo or restore", byUndo ? court::undo : court::restore, 2);
                Check.due("output", () -> court.outputChar(0), '1');
                Check.due("error position", court::errorPosition, 1);
                Check.due("failed command", court::failedCommand, 1);
                Check.due("input", () -> court.feed('t'), 4);
                Check.due("which is kept whole", court::runCommands, 1);
                Check.due("day", court::day, 1);
            }
        });
    }

    private static void errors() {
        Sentences.of(0, "A method that throws an exception leaves the state unchanged, unless its description says otherwise.", () -> {
            LanternCourt court = court();
            for (int number : new int[] {-1, 9}) {
                refusesNumber(court, number);
            }
            refusesOthers(court);
            Check.run(court, "wait;x");
            Check.due("but for the error position", court::errorPosition, 5);
            Check.run(court, "wait;free 1;free 1");
            Check.due("and the failed command", court::failedCommand, 2);
            Check.due("and the input", () -> court.feed('a'), 1);
            LanternCourt full = fullCourt();
            Check.refuses("addLantern", full, full::addLantern, IllegalStateException.class);
            Check.refuses("file", full, () -> full.file(0, 1, 1, 1), IllegalStateException.class);
            Check.refuses("makeStatement", full, () -> full.makeStatement(0, 1, true), IllegalStateException.class);
            Check.refuses("feed", full, () -> full.feed('a'), IllegalStateException.class);
        });
        Sentences.of(0, "If several exceptions apply, the one listed first is thrown.", () -> {
            LanternCourt full = fullCourt();
            Check.fails("file: lantern", () -> full.file(8, 0, 0, 0), IndexOutOfBoundsException.class);
            Check.fails("file: range", () -> full.file(7, 0, 0, 0), IllegalArgumentException.class);
            Check.fails("file: full", () -> full.file(7, 1, 1, 1), IllegalStateException.class);
            Check.fails("makeStatement: lantern", () -> full.makeStatement(8, 8, true), IndexOutOfBoundsException.class);
            Check.fails("makeStatement: the same", () -> full.makeStatement(7, 7, true), IllegalArgumentException.class);
            Check.fails("makeStatement: full", () -> full.makeStatement(7, 6, true), IllegalStateException.class);
            LanternCourt court = new LanternCourt();
            Check.fails("admit: lantern", () -> court.admit(0, true), IndexOutOfBoundsException.class);
            Check.fails("retract: lantern", () -> court.retract(0), IndexOutOfBoundsException.class);
            Check.fails("pardon: lantern", () -> court.pardon(0), IndexOutOfBoundsException.class);
            Check.fails("daysLeft: lantern", () -> court.daysLeft(0), IndexOutOfBoundsException.class);
            LanternCourt clash = Courts.withStatements(1);
            clash.makeStatement(0, 1, false);
            Check.fails("relation: second lantern", () -> clash.relation(0, 2), IndexOutOfBoundsException.class);
            Check.fails("relation: first lantern", () -> clash.relation(2, 0), IndexOutOfBoundsException.class);
            Check.same("runCommands: malformed", Check.run(clash, "wait 0;wait 0;w"), "throws.IllegalArgumentException");
        });
    }

    /** 8 lanterns, 10 briefs, 12 statements and 60 characters. */
    private static LanternCourt fullCourt() {
        LanternCourt court = Courts.serving(8);
        for (int i = 0; i < 10; i++) {
            court.file(i % 8, 1 + i, 1 + i, 9);
        }
        for (int i = 0; i < 12; i++) {
            court.makeStatement(i % 8, (i + 1) % 8, true);
        }
        Check.feed(court, "w".repeat(60));
        return court;
    }

    private static void refusesNumber(LanternCourt court, int number) {
        Check.refuses("file", court, () -> court.file(number, 1, 1, 1), IndexOutOfBoundsException.class);
        Check.refuses("withdraw", court, () -> court.withdraw(number), NoSuchElementException.class);
        Check.refuses("makeStatement", court, () -> court.makeStatement(0, number, true), IndexOutOfBoundsException.class);
        Check.refuses("dropStatement", court, () -> court.dropStatement(number), IndexOutOfBoundsException.class);
        Check.refuses("admit", court, () -> court.admit(number, true), IndexOutOfBoundsException.class);
        Check.refuses("retract", court, () -> court.retract(number), IndexOutOfBoundsException.class);
        Check.refuses("pardon", court, () -> court.pardon(number), IndexOutOfBoundsException.class);
        Check.refuses("writeLantern", court, () -> court.writeLantern(number), IndexOutOfBoundsException.class);
        Check.refuses("relation", court, () -> court.relation(0, number), IndexOutOfBoundsException.class);
        Check.refuses("briefAt", court, () -> court.briefAt(number), NoSuchElementException.class);
        Check.refuses("hearingDay", court, () -> court.hearingDay(number), NoSuchElementException.class);
        Check.refuses("lanternByBrightness", court, () -> court.lanternByBrightness(number), NoSuchElementException.class);
    }

    private static void refusesOthers(LanternCourt court) {
        Check.refuses("file", court, () -> court.file(0, 1, 51, 1), IllegalArgumentException.class);
        Check.refuses("makeStatement", court, () -> court.makeStatement(0, 0, true), IllegalArgumentException.class);
        Check.refuses("admit", court, () -> court.admit(0, true), IllegalStateException.class);
        Check.refuses("passDays", court, () -> court.passDays(10), IllegalArgumentException.class);
        Check.refuses("hearingCount", court, () -> court.hearingCount('x'), IllegalArgumentException.class);
        Check.refuses("restore", court, court::restore, IllegalStateException.class);
        court.pardon(0);
        court.retract(0);
        Check.refuses("pardon", court, () -> court.pardon(0), NoSuchElementException.class);
        Check.refuses("retract", court, () -> court.retract(0), NoSuchElementException.class);
        Check.refuses("daysLeft", court, () -> court.daysLeft(0), NoSuchElementException.class);
    }

    private static void undoCount() {
        Sentences.of(57, "Returns how many calls can be undone.", () -> {
            LanternCourt court = Check.courtWith(3);
            Check.due("three", court::undoCount, 3);
            court.undo();
            Check.due("two", court::undoCount, 2);
            court.save();
            Check.feed(court, "x");
            court.writePlan();
            court.isConsistent();
            Check.due("saving, feeding and asking are not recorded", court::undoCount, 2);
            court.restore();
            Check.due("none after restore", court::undoCount, 0);
        });
        Sentences.of(57, "Returns the number, 0 to 8.", () -> {
            LanternCourt court = new LanternCourt();
            Check.due("none", court::undoCount, 0);
            for (int i = 1; i <= 30; i++) {
                court.passDays(1);
                Check.due("after " + i, court::undoCount, Math.min(i, 8));
            }
            court.undo();
            Check.due("one undone", court::undoCount, 7);
            court.passDays(1);
            court.passDays(1);
            Check.due("eight again", court::undoCount, 8);
        });
    }

    private static void undo() {
        Sentences.of(58, "Undoes the latest recorded call.", () -> {
            LanternCourt court = Check.courtWith(2);
            String[] states = new String[9];
            states[0] = Snapshot.ofState(court);
            court.admit(0, true);
            states[1] = Snapshot.ofState(court);
            court.file(0, 1, 9, 5);
            states[2] = Snapshot.ofState(court);
            court.file(1, 1, 8, 5);
            states[3] = Snapshot.ofState(court);
            court.makeStatement(1, 0, true);
            states[4] = Snapshot.ofState(court);
            court.passDays(1);
            states[5] = Snapshot.ofState(court);
            court.pardon(0);
            states[6] = Snapshot.ofState(court);
            run(court, "lantern;say 21-;wait");
            states[7] = Snapshot.ofState(court);
            court.dropStatement(0);
            for (int i = 7; i >= 0; i--) {
                court.undo();
                Check.sameLines("state " + i, Snapshot.ofState(court), states[i]);
            }
            Check.due("the id is given to the next brief again, for it belongs to the state", () -> court.file(0, 1, 1, 1), 0);
        });
        Sentences.of(58, "Returns how many calls can still be undone.", () -> {
            LanternCourt court = Check.courtWith(8);
            court.passDays(1);
            for (int i = 7; i >= 0; i--) {
                Check.due("number", court::undo, i);
            }
        });
        Sentences.of(58, "Throws `IllegalStateException` if no call can be undone", () -> {
            LanternCourt court = new LanternCourt();
            Check.refuses("a new court", court, court::undo, IllegalStateException.class);
            court.addLantern();
            court.undo();
            Check.refuses("an undone call", court, court::undo, IllegalStateException.class);
            court.save();
            court.addLantern();
            court.restore();
            Check.refuses("after restore", court, court::undo, IllegalStateException.class);
            Check.fails("a call that throws", () -> court.passDays(0), IllegalArgumentException.class);
            Check.refuses("after it", court, court::undo, IllegalStateException.class);
        });
    }

    private static void save() {
        Sentences.of(59, "Saves all lanterns, briefs, statements, sums, the next id and the day.", () -> {
            LanternCourt court = court();
            Check.run(court, "lantern;admit 4 i;file 4 2 50 1;file 3 1 1 1");
            court.passDays(2);
            court.withdraw(4);
            String before = Snapshot.ofState(court);
            court.save();
            Check.sameLines("saving changes nothing", Snapshot.ofState(court), before);
            court.passDays(9);
            run(court, "lantern;admit 4 g;admit 0 i;file 4 9 9 9;drop 0;wait 2");
            Check.same("the state is another one", String.valueOf(Snapshot.ofState(court).equals(before)), "false");
            court.restore();
            Check.sameLines("all of it", Snapshot.ofState(court), before);
            Check.due("the next id", () -> court.file(0, 1, 1, 1), 8);
        });
        Sentences.of(59, "An earlier saved state is replaced.", () -> {
            LanternCourt court = Check.courtWith(1);
            court.save();
            court.passDays(3);
            court.save();
            court.passDays(3);
            court.restore();
            Check.due("the later one", court::day, 3);
            court.restore();
            Check.due("also the second time", court::day, 3);
        });
        Sentences.of(59, "Returns the number of lanterns.", () -> {
            Check.due("none", () -> new LanternCourt().save(), 0);
            Check.due("eight", () -> Check.courtWith(8).save(), 8);
        });
    }

    private static void restore() {
        Sentences.of(60, "Restores the saved state.", () -> {
            LanternCourt court = court();
            String before = Snapshot.ofState(court);
            court.save();
            for (int i = 0; i < 8; i++) {
                court.undo();
            }
            court.restore();
            Check.sameLines("what was undone after it was saved", Snapshot.ofState(court), before);
        });
        Sentences.of(60, "The saved state is kept, and no call can be undone afterwards.", () -> {
            LanternCourt court = court();
            String before = Snapshot.ofState(court);
            court.save();
            for (int i = 0; i < 3; i++) {
                court.passDays(1);
                court.pardon(3 - i);
                court.dropStatement(0);
                run(court, "admit 0 i;file 0 9 9 9");
                court.restore();
                Check.sameLines("restored again", Snapshot.ofState(court), before);
                Check.due("to undo", court::undoCount, 0);
                Check.refuses("undo", court, court::undo, IllegalStateException.class);
            }
            court.passDays(1);
            Check.due("but a later call can", court::undo, 0);
            Check.sameLines("its undo brings back what was restored", Snapshot.ofState(court), before);
        });
        Sentences.of(60, "Returns the number of lanterns.", () -> {
            LanternCourt court = new LanternCourt();
            court.save();
            court.addLantern();
            Check.due("none", court::restore, 0);
            LanternCourt full = Check.courtWith(8);
            full.save();
            Check.due("eight", full::restore, 8);
        });
        Sentences.of(60, "Throws `IllegalStateException` if no state was saved", () -> {
            LanternCourt court = court();
            Check.refuses("nothing saved", court, court::restore, IllegalStateException.class);
            Check.due("the calls can be undone still", court::undo, 7);
            court.save();
            Check.due("now it was", court::restore, 4);
        });
    }
}
