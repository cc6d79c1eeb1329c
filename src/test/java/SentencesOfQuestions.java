import java.util.NoSuchElementException;

/** Promises 11 to 31: questions about days, lanterns, briefs, the plan and statements. */
final class SentencesOfQuestions {
    private SentencesOfQuestions() {
    }

    static void test() {
        dayAndLanternCount();
        brightness();
        hasAdmitted();
        sentenceCount();
        daysLeft();
        daysUntilFree();
        briefCount();
        briefAt();
        lanternOf();
        lastDay();
        fee();
        severity();
        isInPlan();
        hearingDay();
        planFee();
        planFeeBySets();
        statementCount();
        statements();
    }

    private static void dayAndLanternCount() {
        Sentences.of(11, "Returns the present day.", () -> {
            LanternCourt court = Check.courtWith(1);
            Check.due("a new court", court::day, 0);
            court.passDays(9);
            Check.run(court, "wait;wait 9");
            Check.due("all that have passed", court::day, 19);
        });
        Sentences.of(11, "Returns the day.", () -> {
            LanternCourt court = new LanternCourt();
            for (int i = 0; i < 100; i++) {
                court.passDays(9);
            }
            Check.due("a late day", court::day, 900);
        });
        Sentences.of(12, "Returns the number of lanterns.", () -> {
            LanternCourt court = Check.courtWith(3);
            Check.due("three", court::lanternCount, 3);
            court.undo();
            Check.due("one undone", court::lanternCount, 2);
        });
        Sentences.of(12, "Returns the number, 0 to 8.", () -> {
            for (int i = 0; i <= 8; i++) {
                Check.due("number", Check.courtWith(i)::lanternCount, i);
            }
            LanternCourt court = Check.courtWith(8);
            Check.answer(court::addLantern);
            Check.due("not more than 8", court::lanternCount, 8);
        });
    }

    private static void brightness() {
        Sentences.of(13, "Returns the brightness of a lantern.", () -> {
            LanternCourt court = Courts.serving(8);
            for (int i = 0; i < 8; i++) {
                int lantern = i;
                Check.due("lantern " + i, () -> court.brightness(lantern), 1 + i);
            }
        });
        Sentences.of(13, "Returns the brightness.", () -> {
            LanternCourt court = Courts.serving(8);
            court.passDays(1);
            Check.due("the least", () -> court.brightness(0), 0);
            Check.due("initially", () -> Check.courtWith(8).brightness(7), 9);
        });
        Arguments.lantern(13, LanternCourt::brightness);
    }

    private static void hasAdmitted() {
        Sentences.of(14, "Returns whether a lantern has admitted that it is guilty, or that it is innocent.", () -> {
            LanternCourt court = Check.courtWith(3);
            court.admit(0, true);
            court.admit(1, false);
            String answers = "";
            for (int i = 0; i < 3; i++) {
                answers += court.hasAdmitted(i, true) + " " + court.hasAdmitted(i, false) + ";";
            }
            Check.same("answers", answers, "true false;false true;false false;");
        });
        Sentences.of(14, "- `guilty`: true to ask for guilty, false to ask for innocent", () -> {
            LanternCourt court = Check.courtWith(2);
            court.makeStatement(0, 1, false);
            court.admit(0, true);
            Check.due("true", () -> court.hasAdmitted(0, true), true);
            Check.due("false", () -> court.hasAdmitted(0, false), false);
            Check.due("a verdict is no admission", () -> court.hasAdmitted(1, false), false);
        });
        Sentences.of(14, "Returns true if it has admitted this.", () -> {
            LanternCourt court = Check.courtWith(1);
            Check.due("not yet", () -> court.hasAdmitted(0, false), false);
            court.admit(0, false);
            Check.due("now", () -> court.hasAdmitted(0, false), true);
            court.retract(0);
            Check.due("not any more", () -> court.hasAdmitted(0, false), false);
        });
        Arguments.lantern(14, (court, lantern) -> court.hasAdmitted(lantern, true));
    }

    private static void sentenceCount() {
        Sentences.of(15, "Returns the number of sentences of a lantern, the one that it serves included.", () -> {
            LanternCourt court = Courts.foundGuilty(2, 9);
            Check.due("one is served and one waits", () -> court.sentenceCount(0), 2);
            court.passDays(7);
            Check.due("one is over", () -> court.sentenceCount(0), 1);
            court.passDays(9);
            Check.due("both are over", () -> court.sentenceCount(0), 0);
        });
        Sentences.of(15, "Returns the number of sentences.", () -> {
            for (int i = 0; i <= 8; i++) {
                LanternCourt court = Courts.foundGuilty(i, 9);
                Check.due("number", () -> court.sentenceCount(0), i);
            }
            Check.due("a ninth is not given, and the first is over", () -> Courts.foundGuilty(9, 9).sentenceCount(0), 7);
        });
        Arguments.lantern(15, LanternCourt::sentenceCount);
    }

    private static void daysLeft() {
        Sentences.of(16, "Returns the number of days that are left of the sentence that a lantern serves.", () -> {
            LanternCourt court = Courts.foundGuilty(2, 9);
            for (int i = 7; i >= 1; i--) {
                Check.due("of the first", () -> court.daysLeft(0), i);
                court.passDays(1);
            }
            Check.due("of the second", () -> court.daysLeft(0), 9);
        });
        Sentences.of(16, "Returns the number of days.", () -> {
            Check.due("a day is served at once", () -> Courts.foundGuilty(1, 9).daysLeft(0), 8);
            Check.due("the least", () -> Courts.foundGuilty(1, 2).daysLeft(0), 1);
        });
        Sentences.of(16, "Throws `NoSuchElementException` if it serves no sentence", () -> {
            LanternCourt court = Courts.foundGuilty(1, 1);
            Check.refuses("after the only day", court, () -> court.daysLeft(0), NoSuchElementException.class);
            LanternCourt fresh = Check.courtWith(8);
            Check.refuses("never", fresh, () -> fresh.daysLeft(7), NoSuchElementException.class);
            LanternCourt pardoned = Courts.serving(2);
            pardoned.pardon(0);
            Check.refuses("pardoned", pardoned, () -> pardoned.daysLeft(0), NoSuchElementException.class);
        });
        Arguments.lantern(16, LanternCourt::daysLeft);
    }

    private static void daysUntilFree() {
        Sentences.of(17, "Returns the number of days that a lantern will serve, all its sentences together.", () -> {
            LanternCourt court = Courts.foundGuilty(3, 4);
            int days = court.daysUntilFree(0);
            Check.due("what is left of three", () -> days, 9);
            for (int i = days - 1; i >= 0; i--) {
                court.passDays(1);
                Check.due("a day less", () -> court.daysUntilFree(0), i);
            }
            Check.due("and it is free", () -> court.sentenceCount(0), 0);
        });
        Sentences.of(17, "Returns the number of days.", () -> {
            Check.due("none", () -> Check.courtWith(1).daysUntilFree(0), 0);
            LanternCourt court = Courts.foundGuilty(8, 9);
            Check.due("eight sentences", () -> court.daysUntilFree(0), 64);
            court.pardon(0);
            Check.due("the others", () -> court.daysUntilFree(0), 63);
        });
        Arguments.lantern(17, LanternCourt::daysUntilFree);
    }

    private static void briefCount() {
        Sentences.of(18, "Returns the number of waiting briefs.", () -> {
            LanternCourt court = Courts.withEqualBriefs(5, 2, 1);
            Check.due("filed", court::briefCount, 5);
            court.withdraw(2);
            Check.due("one withdrawn", court::briefCount, 4);
            court.passDays(1);
            Check.due("one heard", court::briefCount, 3);
            court.passDays(1);
            Check.due("one heard, two lapsed", court::briefCount, 0);
        });
        Sentences.of(18, "Returns the number, 0 to 10.", () -> {
            for (int i = 0; i <= 10; i++) {
                Check.due("number", Courts.withEqualBriefs(i, 12, 1)::briefCount, i);
            }
            LanternCourt court = Courts.withEqualBriefs(10, 12, 1);
            Check.answer(() -> court.file(0, 1, 1, 1));
            Check.due("not more than 10", court::briefCount, 10);
        });
    }

    private static void briefAt() {
        Sentences.of(19, "Returns a waiting brief in the order of the ids.", () -> {
            LanternCourt court = Check.courtWith(1);
            for (int i = 0; i < 6; i++) {
                court.file(0, 12 - i, 1 + i * 3 % 7, 1);
            }
            court.withdraw(0);
            court.withdraw(3);
            court.file(0, 1, 50, 1);
            int[] due = {1, 2, 4, 5, 6};
            for (int i = 0; i < due.length; i++) {
                int position = i;
                Check.due("position " + i, () -> court.briefAt(position), due[i]);
            }
        });
        Sentences.of(19, "- `position`: the position, counted from 0", () -> {
            LanternCourt court = Courts.withEqualBriefs(10, 12, 1);
            Check.due("the first", () -> court.briefAt(0), 0);
            Check.due("the last", () -> court.briefAt(9), 9);
        });
        Sentences.of(19, "Returns the id.", () -> {
            LanternCourt court = Courts.withBriefs();
            Check.due("the first", () -> court.briefAt(0), 3);
            Check.due("the last", () -> court.briefAt(1), 4);
        });
        Sentences.of(19, "Throws `NoSuchElementException` if there is no such position", () -> {
            for (int briefs : new int[] {0, 1, 10}) {
                LanternCourt court = Courts.withEqualBriefs(briefs, 12, 1);
                for (int position : new int[] {-1, briefs, briefs + 1, 10, Integer.MIN_VALUE, Integer.MAX_VALUE}) {
                    Check.refuses("position " + position + " of " + briefs, court, () -> court.briefAt(position), NoSuchElementException.class);
                }
            }
            LanternCourt court = Courts.withBriefs();
            Check.refuses("positions are not ids", court, () -> court.briefAt(3), NoSuchElementException.class);
        });
    }

    /** Briefs 1 and 8 are the first and the last one that wait, and unlike in all. */
    private static LanternCourt twoEnds() {
        LanternCourt court = Check.courtWith(8);
        court.passDays(3);
        for (int i = 0; i < 10; i++) {
            court.file(i == 1 ? 7 : i % 7, 12 - i, 50 - i, i == 8 ? 1 : 9 - i % 8);
        }
        court.withdraw(0);
        court.withdraw(9);
        return court;
    }

    private static void lanternOf() {
        Sentences.of(20, "Returns the lantern against which a brief is.", () -> {
            LanternCourt court = twoEnds();
            Check.due("the first", () -> court.lanternOf(1), 7);
            Check.due("the last", () -> court.lanternOf(8), 1);
        });
        Sentences.of(20, "Returns the index of the lantern.", () -> {
            LanternCourt court = Check.courtWith(8);
            court.file(0, 1, 1, 1);
            court.file(7, 1, 1, 1);
            Check.due("the least", () -> court.lanternOf(0), 0);
            Check.due("the greatest", () -> court.lanternOf(1), 7);
        });
        Arguments.brief(20, LanternCourt::lanternOf);
    }

    private static void lastDay() {
        Sentences.of(21, "Returns the last day of a brief.", () -> {
            LanternCourt court = twoEnds();
            Check.due("the first", () -> court.lastDay(1), 14);
            Check.due("the last", () -> court.lastDay(8), 7);
            court.passDays(1);
            Check.due("the same a day later", () -> court.lastDay(1), 14);
        });
        Sentences.of(21, "Returns the day.", () -> {
            LanternCourt court = Check.courtWith(1);
            court.file(0, 1, 1, 1);
            court.file(0, 12, 1, 1);
            Check.due("the least", () -> court.lastDay(0), 1);
            Check.due("the greatest", () -> court.lastDay(1), 12);
        });
        Arguments.brief(21, LanternCourt::lastDay);
    }

    private static void fee() {
        Sentences.of(22, "Returns the fee of a brief.", () -> {
            LanternCourt court = twoEnds();
            Check.due("the first", () -> court.fee(1), 49);
            Check.due("the last", () -> court.fee(8), 42);
        });
        Sentences.of(22, "Returns the fee.", () -> {
            Check.due("the least", () -> Courts.withEqualBriefs(1, 1, 1).fee(0), 1);
            Check.due("the greatest", () -> Courts.withEqualBriefs(1, 1, 50).fee(0), 50);
        });
        Arguments.brief(22, LanternCourt::fee);
    }

    private static void severity() {
        Sentences.of(23, "Returns the severity of a brief.", () -> {
            LanternCourt court = twoEnds();
            Check.due("the first", () -> court.severity(1), 8);
            Check.due("the last", () -> court.severity(8), 1);
        });
        Sentences.of(23, "Returns the severity.", () -> {
            LanternCourt court = Check.courtWith(1);
            for (int i = 1; i <= 9; i++) {
                int id = i - 1;
                court.file(0, 1, 1, i);
                Check.due("severity", () -> court.severity(id), i);
            }
        });
        Arguments.brief(23, LanternCourt::severity);
    }

    private static void isInPlan() {
        Sentences.of(24, "Returns whether a brief is in the plan.", () -> {
            LanternCourt court = Courts.withEqualBriefs(10, 9, 1);
            for (int i = 0; i < 10; i++) {
                int id = i;
                Check.due("brief " + i, () -> court.isInPlan(id), i < 9);
            }
            court.withdraw(4);
            Check.due("there is room", () -> court.isInPlan(9), true);
        });
        Sentences.of(24, "Returns true if it is.", () -> {
            LanternCourt court = Courts.withEqualBriefs(1, 1, 1);
            Check.due("the only one", () -> court.isInPlan(0), true);
            court.file(0, 1, 2, 1);
            Check.due("a dearer one", () -> court.isInPlan(1), true);
            Check.due("not any more", () -> court.isInPlan(0), false);
        });
        Arguments.brief(24, LanternCourt::isInPlan);
    }

    private static void hearingDay() {
        Sentences.of(25, "Returns the day on which a brief will be heard by the plan.", () -> {
            LanternCourt court = Courts.withEqualBriefs(10, 12, 1);
            for (int i = 0; i < 10; i++) {
                int day = court.hearingDay(i);
                Check.due("heard", () -> court.passDays(1), 1);
                Check.due("on that day", court::day, day);
                int id = i;
                Check.fails("it does not wait any more", () -> court.fee(id), NoSuchElementException.class);
            }
        });
        Sentences.of(25, "Returns the day.", () -> {
            LanternCourt court = Courts.withEqualBriefs(10, 10, 1);
            Check.due("the next one", () -> court.hearingDay(0), 1);
            Check.due("the last one", () -> court.hearingDay(9), 10);
            court.passDays(9);
            Check.due("the same later", () -> court.hearingDay(9), 10);
        });
        Arguments.brief(25, LanternCourt::hearingDay);
        Sentences.of(25, "Throws `NoSuchElementException` if no brief with this id waits, or it is not in the plan", () -> {
            LanternCourt court = Courts.withEqualBriefs(10, 9, 1);
            Check.due("the last in the plan", () -> court.hearingDay(8), 9);
            Check.refuses("not in the plan", court, () -> court.hearingDay(9), NoSuchElementException.class);
            court.withdraw(0);
            Check.due("in the plan now", () -> court.hearingDay(9), 9);
        });
    }

    private static void planFee() {
        Sentences.of(26, "Returns the sum of the fees of the briefs in the plan.", () -> {
            LanternCourt court = Courts.withEqualBriefs(10, 3, 50);
            Check.due("not of those that are not in it", court::planFee, 150);
            court.passDays(1);
            Check.due("not of those that were heard", court::planFee, 100);
        });
        Sentences.of(26, "Returns the sum.", () -> {
            Check.due("none", () -> new LanternCourt().planFee(), 0);
            Check.due("the least", () -> Courts.withEqualBriefs(1, 1, 1).planFee(), 1);
            Check.due("the greatest", () -> Courts.withEqualBriefs(10, 12, 50).planFee(), 500);
        });
    }

    private static void planFeeBySets() {
        Sentences.of(27, "Returns the same sum as planFee, found as the greatest sum of the fees of a possible set by trying all sets of "
                + "waiting briefs.", () -> {
            for (int days = 1; days <= 12; days++) {
                LanternCourt court = Check.courtWith(1);
                for (int i = 0; i < 10; i++) {
                    court.file(0, 1 + i * days % 12, 1 + i * i * 7 % 50, 1);
                    Check.due("with " + (i + 1) + " briefs", court::planFeeBySets, court.planFee());
                }
            }
            LanternCourt court = Courts.withEqualBriefs(2, 2, 26);
            court.file(0, 1, 50, 1);
            court.file(0, 1, 1, 1);
            Check.due("the greatest fee and one of the others", court::planFeeBySets, 76);
            court.withdraw(2);
            Check.due("two are more than one", court::planFeeBySets, 52);
        });
        Sentences.of(27, "Returns the sum.", () -> {
            Check.due("none", () -> new LanternCourt().planFeeBySets(), 0);
            Check.due("the least", () -> Courts.withEqualBriefs(1, 1, 1).planFeeBySets(), 1);
            Check.due("the greatest", () -> Courts.withEqualBriefs(10, 12, 50).planFeeBySets(), 500);
        });
    }

    private static void statementCount() {
        Sentences.of(28, "Returns the number of statements.", () -> {
            LanternCourt court = Courts.withStatements(3);
            Check.due("three", court::statementCount, 3);
            court.dropStatement(2);
            Check.due("one dropped", court::statementCount, 2);
        });
        Sentences.of(28, "Returns the number, 0 to 12.", () -> {
            for (int i = 0; i <= 12; i++) {
                Check.due("number", Courts.withStatements(i)::statementCount, i);
            }
            LanternCourt court = Courts.withStatements(12);
            Check.answer(() -> court.makeStatement(0, 1, true));
            Check.due("not more than 12", court::statementCount, 12);
        });
    }

    private static void statements() {
        LanternCourt court = Check.courtWith(8);
        for (int i = 0; i < 12; i++) {
            court.makeStatement(i == 11 ? 7 : i % 7, i == 11 ? 0 : 7, i == 0);
        }
        Sentences.of(29, "Returns the first lantern of a statement.", () -> {
            Check.due("the first statement", () -> court.firstOf(0), 0);
            Check.due("the last but one", () -> court.firstOf(10), 3);
        });
        Sentences.of(29, "Returns the index of the lantern.", () -> Check.due("the greatest", () -> court.firstOf(11), 7));
        Sentences.of(30, "Returns the second lantern of a statement.", () -> {
            Check.due("the first statement", () -> court.secondOf(0), 7);
            Check.due("the last but one", () -> court.secondOf(10), 7);
        });
        Sentences.of(30, "Returns the index of the lantern.", () -> Check.due("the least", () -> court.secondOf(11), 0));
        Sentences.of(31, "Returns whether a statement says together.", () -> {
            Check.due("the first statement", () -> court.isTogether(0), true);
            Check.due("the last", () -> court.isTogether(11), false);
        });
        Sentences.of(31, "Returns true for together, false for apart.", () -> {
            LanternCourt two = Courts.withStatements(1);
            two.makeStatement(1, 0, false);
            Check.due("together", () -> two.isTogether(0), true);
            Check.due("apart", () -> two.isTogether(1), false);
        });
        Arguments.statement(29, LanternCourt::firstOf);
        Arguments.statement(30, LanternCourt::secondOf);
        Arguments.statement(31, LanternCourt::isTogether);
    }
}
