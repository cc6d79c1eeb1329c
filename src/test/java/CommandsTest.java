import java.util.NoSuchElementException;

/** Promises 50 to 56: the input buffer, commands, their errors, and output. */
final class CommandsTest {
    public static void main(String[] args) {
        feed();
        everyCommand();
        formsOfNumbers();
        numbersOfEarlierCommands();
        wellFormedTexts();
        malformedTexts();
        textsAfterLongerOnes();
        errorPositionIsKept();
        failingCommands();
        failuresKeepTheState();
        failedCommandIsKept();
        bufferIsEmptied();
        writeLantern();
        writePlan();
        outputChar();
        Check.end();
    }

    private static void feed() {
        LanternCourt court = new LanternCourt();
        for (int i = 1; i <= 60; i++) {
            int length = i;
            Check.due("50: length", () -> court.feed((char) (length * 1000)), length);
        }
        Check.fails("50: full", () -> court.feed('a'), IllegalStateException.class);
        Check.fails("51: not a text", court::runCommands, IllegalArgumentException.class);
        Check.due("50: empty again", () -> court.feed('a'), 1);
    }

    private static void runs(LanternCourt court, String text, Object due) {
        Check.same("51: \"" + text + "\"", Check.run(court, text), String.valueOf(due));
    }

    private static void everyCommand() {
        LanternCourt court = new LanternCourt();
        runs(court, "lantern;lantern;lantern;lantern", 4);
        Check.due("51: lanterns", court::lanternCount, 4);
        runs(court, "file 3 12 50 9;file 0 1 2 3", 2);
        Check.due("51: lantern of a brief", () -> court.lanternOf(0), 3);
        Check.due("51: last day of a brief", () -> court.lastDay(0), 12);
        Check.due("51: fee of a brief", () -> court.fee(0), 50);
        Check.due("51: severity of a brief", () -> court.severity(0), 9);
        Check.due("51: severity of a brief", () -> court.severity(1), 3);
        runs(court, "cancel 1", 1);
        Check.due("51: a brief withdrawn", court::briefCount, 1);
        Check.due("51: half of it paid back", court::paidBack, 1);
        runs(court, "say 12+;say 30-", 2);
        Check.due("51: first of a statement", () -> court.firstOf(1), 3);
        Check.due("51: second of a statement", () -> court.secondOf(1), 0);
        Check.due("51: apart", () -> court.isTogether(1), false);
        Check.due("51: together", () -> court.isTogether(0), true);
        runs(court, "drop 0", 1);
        Check.due("51: which statement is left", () -> court.firstOf(0), 3);
        runs(court, "admit 3 g;admit 1 i", 2);
        Check.due("51: guilt", () -> court.hasAdmitted(3, true), true);
        Check.due("51: innocence", () -> court.hasAdmitted(1, false), true);
        runs(court, "wait", 1);
        Check.due("51: one day", court::day, 1);
        Check.due("51: a hearing", () -> Check.lantern(court, 3), "3********g/8");
        runs(court, "wait 3", 1);
        Check.due("51: three days more", court::day, 4);
        runs(court, "free 3", 1);
        Check.due("51: pardoned", () -> Check.lantern(court, 3), "3*****g");
    }

    private static void formsOfNumbers() {
        LanternCourt court = Check.courtWith(2);
        runs(court, "file 0 01 02 3;file 1 1 50 9;file 1 12 1 1", 3);
        Check.due("51: leading zeros", () -> court.fee(0), 2);
        runs(court, "cancel 000;cancel 01;cancel 2", 3);
        runs(court, "say 01+;say 10-;drop 01;drop 00", 4);
        Check.due("51: both dropped", court::statementCount, 0);
    }

    private static void numbersOfEarlierCommands() {
        LanternCourt court = Check.courtWith(3);
        court.file(0, 12, 1, 1);
        for (int i = 0; i < 4; i++) {
            court.makeStatement(i % 3, (i + 1) % 3, true);
        }
        runs(court, "file 2 3 4 5;drop 1;cancel 0", 3);
        Check.due("51: the second statement was dropped", () -> court.firstOf(1), 2);
        Check.due("51: the second brief waits", () -> court.briefAt(0), 1);
        runs(court, "file 0 9 9 9;wait", 2);
        Check.due("51: one day, not nine", court::day, 1);
        runs(court, "wait 9;wait", 2);
        Check.due("51: nine days and one", court::day, 11);
    }

    private static void wellFormedTexts() {
        LanternCourt court = new LanternCourt();
        runs(court, "wait;wait;wait;wait;wait;wait;wait;wait;wait;wait;wait;wait", 12);
        Check.due("51: twelve days", court::day, 12);
        // Values that no method takes are well-formed all the same.
        for (String text : new String[] {"wait 0", "file 9 0 0 0", "file 9 99 99 9", "cancel 999", "say 99+",
            "drop 99", "admit 9 g", "free 9"}) {
            runs(court, text, "throws.UnsupportedOperationException");
        }
        Check.fails("52: none was malformed", court::errorPosition, NoSuchElementException.class);
    }

    private static void malformed(String text, int position) {
        LanternCourt court = Check.courtWith(2);
        runs(court, text, "throws.IllegalArgumentException");
        Check.due("52: \"" + text + "\"", court::errorPosition, position);
        Check.due("51: nothing of \"" + text + "\" was carried out", court::day, 0);
        Check.due("51: \"" + text + "\" is not recorded", court::undoCount, 2);
        Check.fails("53: no command of it failed", court::failedCommand, NoSuchElementException.class);
    }

    private static void malformedTexts() {
        malformed("", 0);
        malformed(";", 0);
        malformed(" wait", 0);
        malformed("x", 0);
        malformed("Wait", 0);
        malformed("wAit", 1);
        malformed("wai", 3);
        malformed("wait ", 5);
        malformed("wait;", 5);
        malformed("wait;;wait", 5);
        malformed("wait; wait", 5);
        malformed("waits", 4);
        malformed("wait 12", 6);
        malformed("wait  1", 5);
        malformed("wait 1 ", 6);
        malformed("wait x", 5);
        malformed("fxle 0 1 1 1", 1);
        malformed("fire", 2);
        malformed("fret", 3);
        malformed("free", 4);
        malformed("free 01", 6);
        malformed("lanterns", 7);
        malformed("lantern;lanternlantern", 15);
        malformed("file 00 1 1 1", 6);
        malformed("file 0 123 1 1", 9);
        malformed("file 0 1 123 1", 11);
        malformed("file 0 1 1 11", 12);
        malformed("file 0 1 1", 10);
        malformed("file 0 1 1 ", 11);
        malformed("file 0,1,1,1", 6);
        malformed("file -1 1 1 1", 5);
        malformed("wait;file 0 1 1;wait", 15);
        malformed("cancel 1234", 10);
        malformed("cancel ", 7);
        malformed("cancel;", 6);
        malformed("say 0 1+", 5);
        malformed("say 01", 6);
        malformed("say 01*", 6);
        malformed("say 01+-", 7);
        malformed("drop 123", 7);
        malformed("drop x", 5);
        malformed("admit 0g", 7);
        malformed("admit 0 G", 8);
        malformed("admit 0 u", 8);
        malformed("admit 0 gi", 9);
        malformed("admit 10 g", 7);
        malformed("wait;wait;wait;wait;wait;wait;wait;wait;wait;wait;wait;wait;", 60);
        malformed("wait\u0000", 4);
        malformed("wait \u0661", 5);
        malformed("\uffff", 0);
    }

    /** The end of the text counts, and not what an earlier text has left behind it. */
    private static void textsAfterLongerOnes() {
        LanternCourt court = Check.courtWith(2);
        for (String longer : new String[] {"file 0 1 1 1", "say 01+", "admit 1 g", "wait 5", "drop 0"}) {
            for (int length = 0; length < longer.length(); length++) {
                Check.run(court, longer);
                String start = longer.substring(0, length);
                if (!start.equals("wait")) {
                    runs(court, start, "throws.IllegalArgumentException");
                    Check.due("52: \"" + start + "\"", court::errorPosition, length);
                }
            }
        }
    }

    private static void errorPositionIsKept() {
        LanternCourt court = new LanternCourt();
        Check.fails("52: none", court::errorPosition, NoSuchElementException.class);
        runs(court, "wai", "throws.IllegalArgumentException");
        runs(court, "wait", 1);
        runs(court, "wait 0", "throws.UnsupportedOperationException");
        court.undo();
        Check.due("52: kept by later texts and undo", court::errorPosition, 3);
        runs(court, "wait;x", "throws.IllegalArgumentException");
        Check.due("52: the latest", court::errorPosition, 5);
        court.save();
        runs(court, "x", "throws.IllegalArgumentException");
        court.restore();
        Check.due("52: not restored", court::errorPosition, 0);
    }

    private static void fails(LanternCourt court, String text, int command) {
        runs(court, text, "throws.UnsupportedOperationException");
        Check.due("53: \"" + text + "\"", court::failedCommand, command);
    }

    private static void failingCommands() {
        LanternCourt court = Check.courtWith(2);
        fails(court, "wait;wait 0", 1);
        fails(court, "lantern;lantern;file 4 1 1 1", 2);
        fails(court, "file 0 0 1 1", 0);
        fails(court, "file 0 13 1 1", 0);
        fails(court, "file 0 1 0 1", 0);
        fails(court, "file 0 1 51 1", 0);
        fails(court, "file 0 1 1 0", 0);
        fails(court, "file 2 1 1 1", 0);
        fails(court, "cancel 0", 0);
        fails(court, "file 0 1 1 1;cancel 1", 1);
        fails(court, "say 02+", 0);
        fails(court, "say 20+", 0);
        fails(court, "say 11+", 0);
        fails(court, "drop 0", 0);
        fails(court, "say 01+;drop 1", 1);
        fails(court, "admit 2 g", 0);
        fails(court, "admit 0 g;admit 0 i;admit 0 i", 2);
        fails(court, "free 0", 0);
        fails(court, "free 2", 0);
        runs(court, "lantern;lantern;lantern;lantern;lantern;lantern", 6);
        fails(court, "wait;lantern", 1);
        for (int i = 0; i < 10; i++) {
            court.file(0, 12, 1, 1);
        }
        fails(court, "file 0 1 1 1", 0);
        for (int i = 0; i < 12; i++) {
            court.makeStatement(0, 1, true);
        }
        fails(court, "say 01+", 0);
    }

    private static void failuresKeepTheState() {
        LanternCourt court = Check.courtWith(1);
        court.admit(0, true);
        runs(court, "file 0 2 9 9;say 00+", "throws.UnsupportedOperationException");
        Check.due("51: no brief", court::briefCount, 0);
        Check.due("51: no fee", court::courtCoins, 0);
        runs(court, "lantern;file 0 2 9 9;say 01+;wait 2;admit 0 i;wait 0", "throws.UnsupportedOperationException");
        Check.due("53: the last", court::failedCommand, 5);
        Check.due("51: no day", court::day, 0);
        Check.due("51: no lantern", court::lanternCount, 1);
        Check.due("51: no statement", court::statementCount, 0);
        Check.due("51: no hearing", () -> court.hearingCount('g'), 0);
        Check.due("51: no sentence", () -> Check.lantern(court, 0), "0*********g");
        Check.due("51: not recorded", court::undoCount, 2);
        Check.due("51: no id used", () -> court.file(0, 1, 1, 1), 0);
    }

    private static void failedCommandIsKept() {
        LanternCourt court = new LanternCourt();
        Check.fails("53: none", court::failedCommand, NoSuchElementException.class);
        runs(court, "wait", 1);
        Check.fails("53: still none", court::failedCommand, NoSuchElementException.class);
        runs(court, "wait;wait;free 0", "throws.UnsupportedOperationException");
        runs(court, "wait", 1);
        runs(court, "x", "throws.IllegalArgumentException");
        court.undo();
        Check.due("53: kept", court::failedCommand, 2);
        runs(court, "wait;free 0", "throws.UnsupportedOperationException");
        Check.due("53: the latest", court::failedCommand, 1);
    }

    private static void bufferIsEmptied() {
        LanternCourt court = Check.courtWith(1);
        for (String text : new String[] {"wait", "x", "free 0"}) {
            Check.run(court, text);
            Check.due("51: buffer after \"" + text + "\"", () -> court.feed('w'), 1);
            Check.run(court, "ait");
        }
        Check.due("51: days", court::day, 4);
        Check.feed(court, "wa");
        court.undo();
        court.save();
        court.restore();
        Check.due("50: not part of undo or restore", () -> court.feed('i'), 3);
    }

    private static void writeLantern() {
        LanternCourt court = Check.courtWith(4);
        Check.due("54: new", () -> court.writeLantern(3), 10);
        Check.due("54: new", () -> Check.lantern(court, 3), "3*********");
        court.admit(3, true);
        court.admit(1, false);
        Check.due("54: innocent", () -> Check.lantern(court, 1), "1*********i");
        // Heard on days 1, 2 and 3; the last one leaves 5 of 7 days.
        court.file(3, 1, 1, 3);
        court.file(3, 2, 1, 4);
        court.file(3, 3, 1, 7);
        court.passDays(5);
        Check.due("54: as in the example", () -> Check.lantern(court, 3), "3****g/2/7");
        Check.due("54: its length", () -> court.writeLantern(3), 10);
        Check.fails("54: lantern -1", () -> court.writeLantern(-1), IndexOutOfBoundsException.class);
        Check.fails("54: lantern 4", () -> court.writeLantern(4), IndexOutOfBoundsException.class);
        Check.due("54: the output stays", () -> court.outputChar(9), '7');
    }

    private static void writePlan() {
        LanternCourt court = Check.courtWith(1);
        Check.due("55: empty", court::writePlan, 0);
        Check.fails("55: empty", () -> court.outputChar(0), IndexOutOfBoundsException.class);
        court.file(0, 2, 1, 1);
        Check.due("55: one", () -> Check.plan(court), "0");
        court.file(0, 1, 1, 1);
        court.file(0, 1, 2, 1);
        Check.due("55: two", () -> Check.plan(court), "2 0");
        Check.due("55: its length", court::writePlan, 3);
        court.passDays(9);
        for (int i = 3; i < 100; i++) {
            court.file(0, 1, 1, 1);
            court.withdraw(i);
        }
        court.file(0, 12, 1, 1);
        court.file(0, 11, 1, 1);
        Check.due("55: long ids", () -> Check.plan(court), "101 100");
        Check.due("51: an id of three digits", () -> Check.run(court, "cancel 100"), "1");
        Check.due("55: the other one", () -> Check.plan(court), "101");
    }

    private static void outputChar() {
        LanternCourt court = Check.courtWith(1);
        Check.fails("56: initially empty", () -> court.outputChar(0), IndexOutOfBoundsException.class);
        court.writeLantern(0);
        Check.due("56: first", () -> court.outputChar(0), '0');
        Check.due("56: last", () -> court.outputChar(9), '*');
        Check.fails("56: behind the last", () -> court.outputChar(10), IndexOutOfBoundsException.class);
        Check.fails("56: -1", () -> court.outputChar(-1), IndexOutOfBoundsException.class);
        court.undo();
        Check.due("56: not part of undo", () -> court.outputChar(9), '*');
    }
}
