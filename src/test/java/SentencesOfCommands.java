import java.util.NoSuchElementException;

/** The paragraph "Commands" of "Terms", and promises 50 to 56. */
final class SentencesOfCommands {
    private static final String MALFORMED = "throws.IllegalArgumentException";
    private static final String FAILED = "throws.UnsupportedOperationException";
    /** 60 characters; eleven days pass. */
    private static final String LONGEST = "wait;wait 1;wait;wait 1;wait;wait;wait;wait;wait 1;wait;wait";

    private SentencesOfCommands() {
    }

    static void test() {
        texts();
        commands();
        forms();
        feed();
        runCommands();
        errors();
        writeLantern();
        writePlan();
        outputChar();
    }

    /** All 8 lanterns serve, briefs 8 and 9 wait, and there are 3 statements. */
    private static LanternCourt court() {
        LanternCourt court = Courts.serving(8);
        for (int i = 0; i < 2; i++) {
            court.file(i, 12, 9, 9);
        }
        for (int i = 0; i < 3; i++) {
            court.makeStatement(i, i + 1, true);
        }
        return court;
    }

    private static void runs(LanternCourt court, String text, Object due) {
        Check.same("\"" + text + "\"", Check.run(court, text), String.valueOf(due));
    }

    /** A well-formed text, whether its commands can be carried out or not. */
    private static void wellFormed(String text) {
        LanternCourt court = court();
        String answer = Check.run(court, text);
        Check.same("\"" + text + "\" is malformed", String.valueOf(answer.equals(MALFORMED)), "false");
        Check.fails("\"" + text + "\" has no error position", court::errorPosition, NoSuchElementException.class);
    }

    private static void malformed(String text, int position) {
        LanternCourt court = court();
        String before = Snapshot.ofState(court);
        runs(court, text, MALFORMED);
        Check.due("error position of \"" + text + "\"", court::errorPosition, position);
        Check.sameLines("the state after \"" + text + "\"", Snapshot.ofState(court), before);
    }

    private static void texts() {
        Sentences.of(0, "The input buffer holds at most 60 characters.", () -> {
            LanternCourt court = new LanternCourt();
            Check.same("length", String.valueOf(LONGEST.length()), "60");
            for (int i = 0; i < 60; i++) {
                int index = i;
                Check.due("length", () -> court.feed(LONGEST.charAt(index)), i + 1);
            }
            Check.refuses("character 61", court, () -> court.feed(';'), IllegalStateException.class);
            Check.due("all 60 are carried out", court::runCommands, 11);
            Check.due("days", court::day, 11);
        });
        Sentences.of(0, "A text consists of one or more commands, separated by semicolons.", () -> {
            malformed("", 0);
            malformed(";", 0);
            malformed(";wait", 0);
            malformed("wait;", 5);
            malformed("wait;;wait", 5);
            malformed("wait,wait", 4);
            malformed("wait wait", 5);
            malformed("waitwait", 4);
            malformed("wait; wait", 5);
            malformed("wait ;wait", 5);
            runs(new LanternCourt(), "wait", 1);
            runs(new LanternCourt(), "wait;wait", 2);
            runs(new LanternCourt(), LONGEST, 11);
        });
    }

    private static void commands() {
        Sentences.of(0, "\"lantern\" adds a lantern.", () -> {
            LanternCourt court = new LanternCourt();
            runs(court, "lantern;lantern;lantern;lantern;lantern;lantern", 6);
            runs(court, "lantern;lantern", 2);
            Check.due("eight", court::lanternCount, 8);
            runs(court, "lantern", FAILED);
            malformed("lantern 1", 7);
            malformed("lantern ", 7);
        });
        Sentences.of(0, "\"file\", a blank, a lantern, a blank, a number of days, a blank, a fee, a blank and a severity files a brief.",
                SentencesOfCommands::commandFile);
        Sentences.of(0, "\"cancel\", a blank and an id withdraws a brief.", () -> {
            LanternCourt court = court();
            runs(court, "cancel 8;cancel 9", 2);
            Check.due("none waits", court::briefCount, 0);
            Check.due("half of each fee", court::paidBack, 8);
            for (String text : new String[] {"cancel 10", "cancel 8", "cancel 0", "cancel 999"}) {
                runs(court, text, FAILED);
            }
            malformed("cancel", 6);
            malformed("cancel ", 7);
            malformed("cancel8", 6);
        });
        Sentences.of(0, "\"say\", a blank, two digits for two lanterns, and \"+\" for together or \"-\" for apart makes a statement.",
                SentencesOfCommands::commandSay);
        Sentences.of(0, "\"drop\", a blank and an index drops a statement.", () -> {
            LanternCourt court = court();
            runs(court, "drop 3", FAILED);
            runs(court, "drop 0;drop 1", 2);
            Check.due("the middle one is left", () -> court.firstOf(0), 1);
            runs(court, "drop 0", 1);
            runs(court, "drop 0", FAILED);
            LanternCourt full = Courts.withStatements(12);
            runs(full, "drop 12", FAILED);
            runs(full, "drop 11", 1);
            Check.due("eleven are left", full::statementCount, 11);
            malformed("drop", 4);
            malformed("drop -1", 5);
        });
        Sentences.of(0, "\"admit\", a blank, a lantern, a blank and \"g\" or \"i\" admits guilt or innocence.", () -> {
            LanternCourt court = Check.courtWith(8);
            runs(court, "admit 7 g;admit 0 i", 2);
            Check.due("guilt", () -> court.hasAdmitted(7, true), true);
            Check.due("innocence", () -> court.hasAdmitted(0, false), true);
            runs(court, "admit 7 i", 1);
            Check.due("in its place", () -> court.hasAdmitted(7, false), true);
            for (String text : new String[] {"admit 7 i", "admit 0 i", "admit 8 g", "admit 9 i"}) {
                runs(court, text, FAILED);
            }
            for (char sign : new char[] {'G', 'I', 'u', 'm', '+', '1', ' ', ';'}) {
                malformed("admit 1 " + sign, 8);
            }
            malformed("admit 1", 7);
            malformed("admit 1 ", 8);
            malformed("admit 1g", 7);
        });
        Sentences.of(0, "\"free\", a blank and a lantern pardons a lantern.", () -> {
            LanternCourt court = court();
            runs(court, "free 0;free 7", 2);
            Check.due("the first", () -> court.sentenceCount(0), 0);
            Check.due("the last", () -> court.sentenceCount(7), 0);
            Check.due("another one", () -> court.sentenceCount(1), 1);
            for (String text : new String[] {"free 0", "free 8", "free 9"}) {
                runs(court, text, FAILED);
            }
            malformed("free", 4);
            malformed("free0", 4);
        });
        Sentences.of(0, "\"wait\", optionally followed by a blank and a digit, lets this number of days pass, or one day.", () -> {
            LanternCourt court = new LanternCourt();
            runs(court, "wait", 1);
            Check.due("one day", court::day, 1);
            runs(court, "wait 1;wait", 2);
            Check.due("two days", court::day, 3);
            runs(court, "wait 9;wait;wait 2;wait", 4);
            Check.due("thirteen days", court::day, 16);
            runs(court, "wait 0", FAILED);
            malformed("wait ", 5);
            malformed("wait1", 4);
            malformed("wait  1", 5);
            malformed("wait -1", 5);
        });
    }

    private static void commandFile() {
        LanternCourt court = Check.courtWith(8);
        runs(court, "file 7 12 50 9;file 0 1 1 1", 2);
        Check.due("lanterns", () -> court.lanternOf(0) * 10 + court.lanternOf(1), 70);
        Check.due("last days", () -> court.lastDay(0) * 100 + court.lastDay(1), 1201);
        Check.due("fees", () -> court.fee(0) * 100 + court.fee(1), 5001);
        Check.due("severities", () -> court.severity(0) * 10 + court.severity(1), 91);
        for (String text : new String[] {"file 8 1 1 1", "file 0 0 1 1", "file 0 13 1 1", "file 0 1 0 1", "file 0 1 51 1", "file 0 1 1 0"}) {
            runs(court, text, FAILED);
        }
        runs(court, "file 0 9 9 9;file 0 9 9 9;file 0 9 9 9;file 0 9 9 9", 4);
        runs(court, "file 0 9 9 9;file 0 9 9 9;file 0 9 9 9;file 0 9 9 9", 4);
        Check.due("ten wait", court::briefCount, 10);
        runs(court, "file 0 9 9 9", FAILED);
        String text = "file 0 1 1 1";
        for (int i = 4; i < text.length(); i++) {
            malformed(text.substring(0, i), i);
            malformed(text.substring(0, i) + ";wait", i);
            malformed(text.substring(0, i) + "x" + text.substring(i + 1), i);
        }
        malformed("file 0  1 1 1", 7);
        malformed(text + " ", 12);
    }

    private static void commandSay() {
        LanternCourt court = Check.courtWith(8);
        runs(court, "say 07+;say 70-", 2);
        Check.due("first", () -> court.firstOf(0) * 10 + court.firstOf(1), 7);
        Check.due("second", () -> court.secondOf(0) * 10 + court.secondOf(1), 70);
        Check.due("together", () -> court.isTogether(0), true);
        Check.due("apart", () -> court.isTogether(1), false);
        for (String text : new String[] {"say 00+", "say 77-", "say 08+", "say 80-", "say 99+"}) {
            runs(court, text, FAILED);
        }
        runs(court, "say 01+;say 01+;say 01+;say 01+;say 01+", 5);
        runs(court, "say 01+;say 01+;say 01+;say 01+;say 01+", 5);
        Check.due("twelve", court::statementCount, 12);
        runs(court, "say 01+", FAILED);
        for (String sign : new String[] {"", "*", "0", " ", ";", "=", ","}) {
            malformed("say 01" + sign, 6);
        }
        malformed("say 0", 5);
        malformed("say 0+", 5);
        malformed("say 0 1+", 5);
        malformed("say01+", 3);
        malformed("say 01++", 7);
    }

    private static void forms() {
        Sentences.of(0, "Numbers of days, fees and indices have one or two digits, ids one to three; all other numbers are single digits.", () -> {
            for (String text : new String[] {"file 0 1 1 1", "file 0 01 01 1", "file 9 99 99 9", "file 0 00 00 0", "drop 0", "drop 00",
                "drop 99", "cancel 0", "cancel 00", "cancel 000", "cancel 999", "free 9", "admit 9 g", "say 99+", "wait 0", "wait 9"}) {
                wellFormed(text);
            }
            malformed("file 0 001 1 1", 9);
            malformed("file 0 1 001 1", 11);
            malformed("file 0 1 1 01", 12);
            malformed("file 00 1 1 1", 6);
            malformed("drop 000", 7);
            malformed("cancel 0000", 10);
            malformed("free 00", 6);
            malformed("admit 00 g", 7);
            malformed("say 000+", 6);
            malformed("wait 01", 6);
            LanternCourt court = court();
            runs(court, "file 0 02 03 4;cancel 008;cancel 09;drop 02;drop 1", 5);
            Check.due("zeros before a last day", () -> court.lastDay(10), 10);
            Check.due("zeros before a fee", () -> court.fee(10), 3);
            Check.due("zeros before an id", court::briefCount, 1);
            Check.due("zeros before an index", court::statementCount, 1);
        });
        Sentences.of(0, "A text is malformed if it does not have this form.", () -> {
            for (char sign : new char[] {0, 1, '\t', '\n', ' ', '/', ':', 'A', 'x', '\u007f', '\u00e9', '\u0660', '\uff11', '\uffff'}) {
                malformed(String.valueOf(sign), 0);
                malformed("wait " + sign, 5);
                malformed("wait;wait 1" + sign, 11);
            }
        });
        Sentences.of(0, "Its error position is the index of the first character that cannot continue a well-formed text, or the length of the "
                + "text if the text ends too early.", () -> {
            String[] texts = {"lantern", "file 0 12 34 5", "cancel 123", "say 01+", "drop 12", "admit 1 g", "free 1", "wait 1"};
            for (String text : texts) {
                for (int i = 1; i < text.length(); i++) {
                    errorAt(text, i);
                }
            }
            malformed("wait;wai", 8);
            malformed("wait;waix", 8);
            malformed("free 1;free 2;freee", 18);
            malformed(LONGEST.substring(0, 59) + "x", 59);
            malformed(LONGEST.substring(0, 59), 59);
            malformed(LONGEST.substring(0, 55) + ";wai;", 59);
            malformed("lantern;lantern;lantern;lantern;lantern;lantern;free 1;free ", 60);
            malformed("lantern;".repeat(7) + "free", 60);
            endsAfterLongerTexts(texts);
        });
        Sentences.of(0, "Keywords are compared letter by letter.", () -> {
            for (String word : new String[] {"lantern", "file", "cancel", "say", "drop", "admit", "free", "wait"}) {
                for (int i = 0; i < word.length(); i++) {
                    String start = word.substring(0, i);
                    malformed(start + Character.toUpperCase(word.charAt(i)) + word.substring(i + 1), i);
                    malformed(start + "\u00e4" + word.substring(i + 1), i);
                    malformed(start + (char) (word.charAt(i) + 256) + word.substring(i + 1), i);
                    malformed("wait;" + start, 5 + i);
                }
            }
            malformed("fee 1", 1);
            malformed("fire 1", 2);
            malformed("frle 1", 2);
            malformed("lanternn", 7);
        });
    }

    /** The text cut off there, unless that is a whole command, and with a sign there that fits nowhere. */
    private static void errorAt(String text, int index) {
        String start = text.substring(0, index);
        malformed(start + "?", index);
        malformed(start + "?" + text.substring(index), index);
        char last = text.charAt(index - 1);
        boolean isWhole = start.equals("wait") || index >= 6 && Character.isDigit(last)
                && (text.startsWith("cancel") || text.startsWith("drop"));
        if (!isWhole) {
            malformed(start, index);
            malformed("wait;" + start, index + 5);
            malformed(start + ";wait", index);
        }
    }

    /** What an earlier text has left behind the end does not continue a later one. */
    private static void endsAfterLongerTexts(String[] texts) {
        for (String text : texts) {
            LanternCourt court = court();
            for (int i = 0; i < text.length(); i++) {
                Check.run(court, text);
                String start = text.substring(0, i) + "?";
                runs(court, start, MALFORMED);
                Check.due("error position of \"" + start + "\"", court::errorPosition, i);
                Check.run(court, text);
                if (i < 4) {
                    runs(court, text.substring(0, i), MALFORMED);
                    Check.due("error position of \"" + text.substring(0, i) + "\"", court::errorPosition, i);
                }
            }
        }
        LanternCourt court = court();
        String[] ends = {"free", "free ", "say 01", "say 0", "admit 1", "admit 1 ", "file 0 1 1", "wait "};
        String[] longer = {"free 1", "free 1", "say 01+", "say 01+", "admit 1 g", "admit 1 g", "file 0 1 1 1", "wait 1"};
        for (int i = 0; i < ends.length; i++) {
            Check.run(court, longer[i]);
            runs(court, ends[i], MALFORMED);
            Check.due("error position of \"" + ends[i] + "\"", court::errorPosition, ends[i].length());
        }
    }

    private static void feed() {
        Sentences.of(50, "Appends a character to the input buffer.", () -> {
            LanternCourt court = new LanternCourt();
            Check.feed(court, "wai");
            Check.feed(court, "t;wait 3");
            Check.due("in the order in which they were fed", court::runCommands, 2);
            Check.due("days", court::day, 4);
        });
        Sentences.of(50, "- `character`: any character", () -> {
            LanternCourt court = new LanternCourt();
            char[] characters = {0, 1, '\n', ' ', ';', 'a', '\u007f', '\u0080', '\u00ff', '\u0100', '\ud800', '\uffff'};
            for (int i = 0; i < characters.length; i++) {
                int index = i;
                Check.due("character " + (int) characters[i], () -> court.feed(characters[index]), i + 1);
            }
        });
        Sentences.of(50, "Returns the new length of the input buffer.", () -> {
            LanternCourt court = new LanternCourt();
            Check.due("the first", () -> court.feed('a'), 1);
            for (int i = 2; i <= 60; i++) {
                Check.due("up to 60", () -> court.feed(';'), i);
            }
            Check.answer(court::runCommands);
            Check.due("the first of the next text", () -> court.feed('a'), 1);
        });
        Sentences.of(50, "Throws `IllegalStateException` if the input buffer holds 60 characters", () -> {
            LanternCourt court = new LanternCourt();
            Check.feed(court, LONGEST);
            for (char sign : new char[] {'w', ';', 0}) {
                Check.refuses("character 61", court, () -> court.feed(sign), IllegalStateException.class);
            }
            Check.due("the buffer is as it was", court::runCommands, 11);
            Check.due("and is empty then", () -> court.feed('w'), 1);
        });
    }

    private static void runCommands() {
        Sentences.of(51, "Carries out the text in the input buffer, command by command.", () -> {
            LanternCourt court = new LanternCourt();
            runs(court, "lantern;file 0 1 9 2;admit 0 g;wait;file 0 1 9 3;wait", 6);
            Check.due("each on what those before it have left", () -> Check.lantern(court, 0), "0*******g/3");
        });
        Sentences.of(51, "If a command throws an exception, the state from before the call is kept.", () -> {
            LanternCourt court = court();
            String before = Snapshot.ofState(court);
            int undos = court.undoCount();
            for (String start : new String[] {"free 1;", "file 0 1 1 1;", "cancel 8;", "say 01+;", "drop 0;", "admit 0 i;", "wait;", "wait 9;"}) {
                for (String end : new String[] {"lantern", "wait 0", "say 00-", "free 9"}) {
                    runs(court, start + end, FAILED);
                    Check.sameLines("the state after \"" + start + end + "\"", Snapshot.ofState(court), before);
                    Check.due("the calls to undo", court::undoCount, undos);
                }
            }
            Check.due("the id is not used up", () -> court.file(0, 1, 1, 1), 10);
            court.undo();
            court.undo();
            Check.due("the calls before it can be undone", court::statementCount, 2);
        });
        Sentences.of(51, "The input buffer is empty afterwards in all cases.", () -> {
            LanternCourt court = Check.courtWith(1);
            for (String text : new String[] {"wait", "", "x", "wait;", "free 0", "wait;free 0", LONGEST, "x".repeat(60)}) {
                Check.run(court, text);
                runs(court, "", MALFORMED);
                Check.due("nothing is left of \"" + text + "\"", court::errorPosition, 0);
                Check.due("length after it", () -> court.feed('w'), 1);
                Check.run(court, "ait");
            }
        });
        Sentences.of(51, "Returns the number of commands.", () -> {
            LanternCourt court = new LanternCourt();
            runs(court, "wait 9", 1);
            runs(court, "lantern;wait", 2);
            runs(court, "wait;wait;wait;wait;wait;wait;wait;wait;wait;wait;wait;wait", 12);
        });
        Sentences.of(51, "Throws `IllegalArgumentException` if the text is malformed; the error position is kept", () -> {
            malformed("wait;wait;wai", 13);
            LanternCourt court = Check.courtWith(1);
            runs(court, "wait 0;free 9;x", MALFORMED);
            Check.due("it comes before a command that would fail", court::errorPosition, 14);
            Check.fails("no command was tried", court::failedCommand, NoSuchElementException.class);
            Check.due("not recorded", court::undoCount, 1);
        });
        Sentences.of(51, "Throws `UnsupportedOperationException` if a command throws an exception; the index of this command is kept as the failed "
                + "command", () -> {
            LanternCourt court = Check.courtWith(2);
            String[] failing = {"file 2 1 1 1", "file 0 0 1 1", "file 0 1 51 1", "file 0 1 1 0", "cancel 0", "say 02+", "say 00+", "drop 0",
                "admit 2 g", "free 2", "free 0", "wait 0"};
            for (int i = 0; i < failing.length; i++) {
                runs(court, "wait;".repeat(i % 5) + failing[i] + ";wait", FAILED);
                Check.due("failed command of \"" + failing[i] + "\"", court::failedCommand, i % 5);
            }
            runs(court, "admit 0 g;admit 0 i;admit 0 i", FAILED);
            Check.due("the same admission twice", court::failedCommand, 2);
            runs(court, "lantern;lantern;lantern;lantern;lantern;lantern;lantern", FAILED);
            Check.due("the ninth lantern", court::failedCommand, 6);
            Check.due("nothing was carried out", court::lanternCount, 2);
        });
    }

    private static void errors() {
        Sentences.of(52, "Returns the error position of the latest malformed text.", () -> {
            LanternCourt court = Check.courtWith(1);
            runs(court, "wait;x", MALFORMED);
            runs(court, "wai", MALFORMED);
            Check.due("the latest", court::errorPosition, 3);
            runs(court, "wait", 1);
            runs(court, "wait;free 0", FAILED);
            Check.due("after others that were well-formed", court::errorPosition, 3);
        });
        Sentences.of(52, "Returns the error position.", () -> {
            malformed("", 0);
            malformed("lantern;lantern;lantern;lantern;lantern;lantern;wait;lanterN", 59);
        });
        Sentences.of(52, "Throws `NoSuchElementException` if no text was malformed", () -> {
            LanternCourt court = new LanternCourt();
            Check.refuses("a new court", court, court::errorPosition, NoSuchElementException.class);
            runs(court, "wait", 1);
            runs(court, "wait;wait 0", FAILED);
            Check.feed(court, "x");
            Check.refuses("well-formed texts, and one that waits", court, court::errorPosition, NoSuchElementException.class);
            Check.answer(court::runCommands);
            Check.due("position 0 is one", court::errorPosition, 0);
        });
        Sentences.of(53, "Returns the index of the command, counted from 0, that threw an exception in the latest failed call of runCommands.", () -> {
            LanternCourt court = Check.courtWith(1);
            runs(court, "wait;wait;free 0;free 0", FAILED);
            Check.due("the first that threw", court::failedCommand, 2);
            runs(court, "wait;free 0;wait", FAILED);
            Check.due("the latest", court::failedCommand, 1);
            runs(court, "wait", 1);
            Check.due("after a text that did not fail", court::failedCommand, 1);
            runs(court, "free 0;x", MALFORMED);
            Check.due("after a malformed text, of which no command was tried", court::failedCommand, 1);
            runs(court, "free 0", FAILED);
            Check.due("the first command", court::failedCommand, 0);
        });
        Sentences.of(53, "Returns the index.", () -> {
            LanternCourt court = new LanternCourt();
            runs(court, "wait;wait;wait;wait;wait;wait;wait;wait;wait;wait;free 0", FAILED);
            Check.due("the eleventh of eleven", court::failedCommand, 10);
        });
        Sentences.of(53, "Throws `NoSuchElementException` if no command failed", () -> {
            LanternCourt court = new LanternCourt();
            Check.refuses("a new court", court, court::failedCommand, NoSuchElementException.class);
            runs(court, "wait", 1);
            runs(court, "free 0;x", MALFORMED);
            Check.refuses("a good and a malformed text", court, court::failedCommand, NoSuchElementException.class);
            Check.fails("a call that is no command", () -> court.pardon(0), IndexOutOfBoundsException.class);
            Check.refuses("a call that failed", court, court::failedCommand, NoSuchElementException.class);
        });
    }

    private static void writeLantern() {
        Sentences.of(54, "Replaces the output by a description of a lantern: its index, \"*\" for each unit of its brightness, \"g\" or \"i\" if it has "
                + "admitted this, and for each of its sentences \"/\" and the days that are left of it, in their order.", () -> {
            LanternCourt court = Courts.foundGuilty(8, 9);
            Check.due("eight sentences", () -> Check.lantern(court, 0), "0*g/1/9/9/9/9/9/9/9");
            court.passDays(1);
            Check.due("no brightness", () -> Check.lantern(court, 0), "0g/9/9/9/9/9/9/9");
            court.admit(0, false);
            Check.due("innocence", () -> Check.lantern(court, 0), "0i/9/9/9/9/9/9/9");
            court.retract(0);
            Check.due("no admission", () -> Check.lantern(court, 0), "0/9/9/9/9/9/9/9");
            court.addLantern();
            Check.due("a new lantern, with nothing of the longer output", () -> Check.lantern(court, 1), "1*********");
            Check.fails("its end", () -> court.outputChar(10), IndexOutOfBoundsException.class);
            Check.due("a waiting brief is no sentence", () -> court.file(1, 1, 1, 1), 8);
            Check.due("the last of eight", () -> Check.lantern(Check.courtWith(8), 7), "7*********");
        });
        Sentences.of(54, "An example is 3****g/2/7.", () -> {
            LanternCourt court = Check.courtWith(4);
            court.admit(3, true);
            court.file(3, 1, 1, 7);
            court.file(3, 2, 1, 7);
            court.passDays(5);
            Check.due("the example", () -> Check.lantern(court, 3), "3****g/2/7");
        });
        Sentences.of(54, "Returns the length of the output.", () -> {
            Check.due("new", () -> Check.courtWith(1).writeLantern(0), 10);
            Check.due("with a sentence", () -> Courts.serving(1).writeLantern(0), 12);
            Check.due("with eight", () -> Courts.foundGuilty(8, 9).writeLantern(0), 19);
        });
        Arguments.lantern(54, LanternCourt::writeLantern);
    }

    private static void writePlan() {
        Sentences.of(55, "Replaces the output by the plan: the ids of its briefs in the order of the hearings, with a blank between two.", () -> {
            LanternCourt court = Courts.withEqualBriefs(10, 10, 1);
            Check.due("ten", () -> Check.plan(court), "0 1 2 3 4 5 6 7 8 9");
            court.withdraw(0);
            court.file(0, 1, 50, 1);
            Check.due("two digits, and the order of the hearings", () -> Check.plan(court), "10 1 2 3 4 5 6 7 8 9");
            court.passDays(9);
            Check.due("one", () -> Check.plan(court), "9");
            Check.fails("nothing of the longer output", () -> court.outputChar(1), IndexOutOfBoundsException.class);
            LanternCourt late = Check.courtWith(1);
            for (int i = 0; i < 99; i++) {
                late.file(0, 1, 1, 1);
                late.withdraw(i);
            }
            late.file(0, 1, 1, 1);
            late.file(0, 2, 1, 1);
            late.file(0, 2, 1, 1);
            Check.due("three digits", () -> Check.plan(late), "99 100");
            late.withdraw(99);
            Check.due("two of three digits", () -> Check.plan(late), "100 101");
        });
        Sentences.of(55, "The output is empty if the plan is.", () -> {
            LanternCourt court = Check.courtWith(1);
            court.writeLantern(0);
            Check.due("no briefs", court::writePlan, 0);
            Check.fails("no character", () -> court.outputChar(0), IndexOutOfBoundsException.class);
            court.file(0, 1, 1, 1);
            court.writePlan();
            court.passDays(1);
            Check.due("the output stays until it is replaced", () -> court.outputChar(0), '0');
            Check.due("none any more", court::writePlan, 0);
            Check.fails("no character any more", () -> court.outputChar(0), IndexOutOfBoundsException.class);
        });
        Sentences.of(55, "Returns the length of the output.", () -> {
            Check.due("one", () -> Courts.withEqualBriefs(1, 1, 1).writePlan(), 1);
            Check.due("one of ten", () -> Courts.withEqualBriefs(10, 1, 1).writePlan(), 1);
            Check.due("two of ten", () -> Courts.withEqualBriefs(10, 2, 1).writePlan(), 3);
            Check.due("ten", () -> Courts.withEqualBriefs(10, 12, 1).writePlan(), 19);
        });
    }

    private static void outputChar() {
        Sentences.of(56, "Returns a character of the output.", () -> {
            LanternCourt court = Courts.serving(1);
            court.writeLantern(0);
            Check.due("a star", () -> court.outputChar(8), '*');
            Check.due("the sign of guilt", () -> court.outputChar(9), 'g');
            court.passDays(9);
            Check.due("the output is not written anew", () -> court.outputChar(11), '8');
        });
        Sentences.of(56, "The output is initially empty.", () -> {
            LanternCourt court = new LanternCourt();
            Check.refuses("no character", court, () -> court.outputChar(0), IndexOutOfBoundsException.class);
            court.feed('a');
            Check.refuses("input is no output", court, () -> court.outputChar(0), IndexOutOfBoundsException.class);
        });
        Sentences.of(56, "- `index`: index of a character of the output", () -> {
            LanternCourt court = Courts.serving(8);
            court.writeLantern(7);
            Check.due("the first", () -> court.outputChar(0), '7');
            Check.due("the last", () -> court.outputChar(11), '8');
        });
        Sentences.of(56, "Returns the character.", () -> {
            LanternCourt court = Courts.withEqualBriefs(2, 2, 1);
            court.writePlan();
            Check.due("0", () -> court.outputChar(0), '0');
            Check.due("blank", () -> court.outputChar(1), ' ');
            Check.due("1", () -> court.outputChar(2), '1');
        });
        Sentences.of(56, "Throws `IndexOutOfBoundsException` if there is no such character", () -> {
            LanternCourt court = Courts.serving(1);
            int length = court.writeLantern(0);
            for (int index : new int[] {-1, length, length + 1, 128, Integer.MIN_VALUE, Integer.MAX_VALUE}) {
                Check.refuses("index " + index, court, () -> court.outputChar(index), IndexOutOfBoundsException.class);
            }
        });
    }
}
