import java.util.NoSuchElementException;

/** The sentences of "Terms" up to "A day". */
final class SentencesOfTerms {
    private SentencesOfTerms() {
    }

    static void test() {
        overview();
        lanterns();
        briefs();
        plan();
        statements();
        explanations();
        verdicts();
        sentences();
        aDay();
    }

    private static void of(String sentence, Runnable test) {
        Sentences.of(0, sentence, test);
    }

    private static void overview() {
        of("Briefs are filed against lanterns and heard one a day in an order that brings in the greatest fees; statements of "
                + "witnesses say which lanterns did a deed together, and from them verdicts are deduced; guilty lanterns serve "
                + "sentences that dim them, one at a time.", () -> {
            LanternCourt court = Check.courtWith(3);
            court.makeStatement(0, 1, true);
            court.admit(0, true);
            court.file(1, 2, 5, 2);
            court.file(2, 2, 4, 2);
            court.file(1, 2, 6, 3);
            Check.due("one a day", () -> court.passDays(1), 1);
            Check.due("the second day", () -> court.passDays(1), 1);
            Check.due("the greatest fees", court::lapsedCount, 1);
            Check.due("two sentences, one served at a time", () -> Check.lantern(court, 1), "1*******/3");
        });
        of("The class finds the best plan of hearings, verdicts, the number of possible explanations and the least number of "
                + "false statements in two ways each, carries out text commands, and can undo changes.", () -> {
            LanternCourt court = new LanternCourt();
            Check.due("commands", () -> Check.run(court, "lantern;lantern;lantern;say 01+;say 12-;say 20+;file 2 1 9 1"), "7");
            Check.due("plan", court::planFee, 9);
            Check.due("plan by sets", court::planFeeBySets, 9);
            Check.due("verdict", () -> court.verdict(1), 'm');
            Check.due("verdict by explanations", () -> court.verdictByExplanations(1), 'm');
            Check.due("explanations", court::explanations, 0);
            Check.due("explanations by trial", court::explanationsByTrial, 0);
            Check.due("least false", court::leastFalse, 1);
            Check.due("least false by sets", court::leastFalseBySets, 1);
            Check.due("undo", court::undo, 0);
        });
    }

    private static void lanterns() {
        of("At most 8 lanterns exist.", () -> {
            LanternCourt court = Check.courtWith(7);
            Check.due("the eighth", court::addLantern, 7);
            Check.refuses("the ninth", court, court::addLantern, IllegalStateException.class);
            Check.due("the ninth by a command", () -> Check.run(court, "lantern"), "throws.UnsupportedOperationException");
            Check.due("lanterns", court::lanternCount, 8);
        });
        of("Their indices start at 0 and follow the order in which they were added.", () -> {
            LanternCourt court = new LanternCourt();
            Check.due("the first", court::addLantern, 0);
            Check.run(court, "lantern;lantern");
            Check.due("the fourth", court::addLantern, 3);
            court.undo();
            Check.due("the fourth after an undo", court::addLantern, 3);
        });
        of("A lantern has a brightness from 0 to 9, initially 9.", () -> {
            LanternCourt court = Courts.foundGuilty(2, 9);
            Check.due("after two days", () -> court.brightness(0), 7);
            court.addLantern();
            Check.due("initially, whatever the others have", () -> court.brightness(1), 9);
            court.passDays(9);
            Check.due("at the least", () -> court.brightness(0), 0);
            court.pardon(0);
            court.passDays(9);
            Check.due("at the most", () -> court.brightness(0), 9);
            court.passDays(1);
            Check.due("not more than 9", () -> court.brightness(0), 9);
        });
        of("It may have admitted that it is guilty or that it is innocent.", () -> {
            LanternCourt court = Check.courtWith(1);
            Check.due("initially no guilt", () -> court.hasAdmitted(0, true), false);
            Check.due("initially no innocence", () -> court.hasAdmitted(0, false), false);
            court.admit(0, true);
            Check.due("guilt", () -> court.hasAdmitted(0, true), true);
            Check.due("not both", () -> court.hasAdmitted(0, false), false);
            court.admit(0, false);
            Check.due("innocence", () -> court.hasAdmitted(0, false), true);
            Check.due("no more guilt", () -> court.hasAdmitted(0, true), false);
        });
        of("The day is initially 0.", () -> {
            LanternCourt court = new LanternCourt();
            Check.due("day", court::day, 0);
            court.addLantern();
            court.file(0, 1, 1, 1);
            Check.due("nothing but passing days changes it", court::day, 0);
            Check.due("the last day of a brief tells it too", () -> court.lastDay(0), 1);
        });
    }

    private static void briefs() {
        of("At most 10 briefs wait.", () -> {
            LanternCourt court = Courts.withEqualBriefs(9, 12, 1);
            Check.due("the tenth", () -> court.file(0, 1, 1, 1), 9);
            Check.refuses("the eleventh", court, () -> court.file(0, 1, 1, 1), IllegalStateException.class);
            court.passDays(1);
            Check.due("one that was heard makes room", () -> court.file(0, 12, 1, 1), 10);
            Check.refuses("but for one only", court, () -> court.file(0, 1, 1, 1), IllegalStateException.class);
            court.withdraw(10);
            Check.due("one that was withdrawn makes room", () -> court.file(0, 1, 50, 1), 11);
            LanternCourt lapsing = Courts.withEqualBriefs(10, 1, 1);
            lapsing.passDays(1);
            for (int i = 10; i < 20; i++) {
                int id = i;
                Check.due("those that lapsed make room", () -> lapsing.file(0, 1, 1, 1), id);
            }
            Check.refuses("but for ten only", lapsing, () -> lapsing.file(0, 1, 1, 1), IllegalStateException.class);
        });
        of("Each brief gets an id; the ids start at 0 and follow the order in which briefs are filed, and are not used again.", () -> {
            LanternCourt court = Courts.withBriefs();
            Check.due("after a withdrawn, a heard and a lapsed one", () -> court.file(0, 1, 1, 1), 5);
            court.withdraw(5);
            Check.due("after the latest one was withdrawn", () -> court.file(0, 1, 1, 1), 6);
            Check.fails("a failed one", () -> court.file(0, 0, 1, 1), IllegalArgumentException.class);
            Check.due("a failed one gets no id", () -> court.file(0, 1, 1, 1), 7);
            Check.due("the first of a new court", () -> Check.courtWith(1).file(0, 1, 1, 1), 0);
        });
        of("A brief is against a lantern and has a last day, a fee and a severity from 1 to 9.", () -> {
            LanternCourt court = Check.courtWith(8);
            court.passDays(2);
            court.file(7, 12, 50, 9);
            court.file(0, 1, 1, 1);
            Check.due("lantern", () -> court.lanternOf(0) * 10 + court.lanternOf(1), 70);
            Check.due("last day", () -> court.lastDay(0) * 100 + court.lastDay(1), 1403);
            Check.due("fee", () -> court.fee(0) * 100 + court.fee(1), 5001);
            Check.due("severity", () -> court.severity(0) * 10 + court.severity(1), 91);
        });
        of("The fee is paid to the court when the brief is filed.", () -> {
            LanternCourt court = Check.courtWith(1);
            court.file(0, 12, 50, 1);
            Check.due("before the hearing", court::courtCoins, 50);
            court.file(0, 12, 1, 1);
            Check.due("for each brief", court::courtCoins, 51);
            court.passDays(2);
            Check.due("not once more after the hearings", court::courtCoins, 51);
        });
    }

    private static void plan() {
        of("Each waiting brief needs one of the days after the present day and not after its last day, and on each day at most "
                + "one brief is heard.", () -> {
            LanternCourt court = Courts.withEqualBriefs(2, 1, 1);
            Check.due("a single day for two", () -> Check.plan(court), "0");
            Check.due("it is the next one and the last one", () -> court.hearingDay(0), 1);
            Check.due("one hearing", () -> court.passDays(1), 1);
            court.file(0, 2, 1, 1);
            court.file(0, 2, 1, 1);
            court.file(0, 2, 1, 1);
            Check.due("two days for three", () -> Check.plan(court), "2 3");
            Check.due("two hearings in nine days", () -> court.passDays(9), 2);
        });
        of("A set of waiting briefs is possible if all of its briefs can get different days.", () -> {
            Check.due("ten in twelve days", () -> Courts.withEqualBriefs(10, 12, 1).planFeeBySets(), 10);
            Check.due("ten in ten days", () -> Courts.withEqualBriefs(10, 10, 1).planFeeBySets(), 10);
            Check.due("ten in nine days", () -> Courts.withEqualBriefs(10, 9, 1).planFeeBySets(), 9);
            Check.due("ten in one day", () -> Courts.withEqualBriefs(10, 1, 1).planFeeBySets(), 1);
            Check.due("ten in nine days, by the plan", () -> Courts.withEqualBriefs(10, 9, 1).planFee(), 9);
            LanternCourt court = Courts.withEqualBriefs(5, 5, 1);
            for (int i = 0; i < 5; i++) {
                court.file(0, 9, 2, 1);
            }
            Check.due("nine days for ten", court::planFeeBySets, 14);
            Check.due("the same by the plan", court::planFee, 14);
            Check.due("the empty set", () -> new LanternCourt().planFeeBySets(), 0);
        });
        of("The plan is found as follows: the waiting briefs are visited in the order of their fees, the greatest first, for "
                + "equal fees the one with the earlier last day first, and then the one with the lower id; a brief is taken "
                + "into the plan if it forms a possible set with those that were taken before.", () -> {
            LanternCourt fees = Courts.withEqualBriefs(2, 2, 3);
            fees.file(0, 2, 4, 1);
            Check.due("the greatest fee first, then the lower id", () -> Check.plan(fees), "0 2");
            LanternCourt days = Courts.withEqualBriefs(2, 2, 3);
            days.file(0, 1, 3, 1);
            Check.due("of equal fees the earlier last day first", () -> Check.plan(days), "2 0");
            days.file(0, 1, 4, 1);
            Check.due("but the fee counts more", () -> Check.plan(days), "3 0");
            LanternCourt later = Courts.withEqualBriefs(3, 1, 9);
            later.file(0, 2, 1, 1);
            Check.due("visited after others that could not be taken", () -> Check.plan(later), "0 3");
            Check.due("these are not in it", () -> later.isInPlan(1) || later.isInPlan(2), false);
        });
        of("The hearings of the plan are in the order of their last days, for equal last days in the order of their ids; the "
                + "first one is on the next day, and each further one a day later.", () -> {
            LanternCourt court = Check.courtWith(1);
            court.passDays(9);
            court.file(0, 12, 1, 1);
            court.file(0, 3, 1, 1);
            court.file(0, 12, 50, 1);
            court.file(0, 3, 50, 1);
            Check.due("last days, then ids, and not fees", () -> Check.plan(court), "1 3 0 2");
            int[] days = {12, 10, 13, 11};
            for (int i = 0; i < days.length; i++) {
                int id = i;
                Check.due("day of " + i, () -> court.hearingDay(id), days[i]);
            }
            court.withdraw(1);
            Check.due("each a day earlier", () -> court.hearingDay(2), 12);
            LanternCourt crowded = Check.courtWith(1);
            crowded.file(0, 5, 9, 1);
            crowded.file(0, 1, 50, 1);
            crowded.file(0, 1, 1, 1);
            Check.due("a brief that is not in the plan takes no place in it", () -> Check.plan(crowded), "1 0");
            Check.due("nor a day", () -> crowded.hearingDay(0), 2);
        });
    }

    private static void statements() {
        of("At most 12 statements exist; their indices start at 0 and follow the order in which they were made; when a statement "
                + "is dropped, the indices of the later ones decrease by 1.", () -> {
            LanternCourt court = Check.courtWith(4);
            for (int i = 0; i < 12; i++) {
                int index = i;
                Check.due("index " + i, () -> court.makeStatement(index % 4, (index + 1) % 4, index % 2 == 0), index);
            }
            Check.refuses("the thirteenth", court, () -> court.makeStatement(0, 1, true), IllegalStateException.class);
            court.dropStatement(5);
            for (int i = 0; i < 11; i++) {
                int index = i;
                int due = i < 5 ? i : i + 1;
                Check.due("first of " + i, () -> court.firstOf(index), due % 4);
                Check.due("second of " + i, () -> court.secondOf(index), (due + 1) % 4);
                Check.due("sense of " + i, () -> court.isTogether(index), due % 2 == 0);
            }
            Check.due("a new one has the last index", () -> court.makeStatement(0, 1, true), 11);
            Check.refuses("full again", court, () -> court.makeStatement(0, 1, true), IllegalStateException.class);
        });
        of("A statement says of two lanterns either that they are both guilty or both innocent (\"together\"), or that exactly "
                + "one of them is guilty (\"apart\").", () -> {
            String due = "";
            for (boolean together : new boolean[] {true, false}) {
                for (boolean guilty : new boolean[] {true, false}) {
                    LanternCourt court = Check.courtWith(2);
                    court.makeStatement(0, 1, together);
                    Check.due("two ways", court::explanations, 2);
                    court.admit(0, guilty);
                    due += court.verdict(1);
                    court.admit(1, together ? guilty : !guilty);
                    Check.due("it is true", court::leastFalse, 0);
                    court.admit(1, together ? !guilty : guilty);
                    Check.due("it is false", court::leastFalse, 1);
                }
            }
            Check.same("verdicts", due, "giig");
        });
    }

    private static void explanations() {
        of("An explanation says of each lantern whether it is guilty or innocent.", () -> {
            for (int lanterns = 0; lanterns <= 8; lanterns++) {
                LanternCourt court = Check.courtWith(lanterns);
                Check.due(lanterns + " lanterns", court::explanations, 1 << lanterns);
                Check.due(lanterns + " lanterns by trial", court::explanationsByTrial, 1 << lanterns);
            }
        });
        of("It is possible if all statements are true in it, and all admissions.", () -> {
            LanternCourt court = Check.courtWith(8);
            for (int i = 0; i < 8; i++) {
                court.admit(i, i % 2 == 0);
            }
            Check.due("all admitted", court::explanationsByTrial, 1);
            court.retract(7);
            Check.due("all but one", court::explanationsByTrial, 2);
            court.makeStatement(6, 7, true);
            Check.due("a statement about it", court::explanationsByTrial, 1);
            court.makeStatement(0, 1, false);
            Check.due("a true one more", court::explanationsByTrial, 1);
            court.makeStatement(0, 2, false);
            Check.due("a false one", court::explanationsByTrial, 0);
            Check.due("by the groups", court::explanations, 0);
        });
        of("Lanterns belong to the same group if they are connected by statements, directly or over others.", () -> {
            LanternCourt court = Check.courtWith(8);
            Check.due("each alone", court::groupCount, 8);
            Check.due("not connected", () -> court.relation(0, 7), '?');
            int[] chain = {3, 0, 5, 1, 7, 2, 6, 4};
            for (int i = 1; i < 8; i += 2) {
                court.makeStatement(chain[i], chain[i - 1], true);
            }
            Check.due("pairs", court::groupCount, 4);
            for (int i = 2; i < 8; i += 2) {
                court.makeStatement(chain[i], chain[i - 1], true);
            }
            Check.due("a chain", court::groupCount, 1);
            Check.due("its ends", () -> court.relation(3, 4), '+');
            court.admit(4, true);
            Check.due("from end to end", () -> court.verdict(3), 'g');
            Check.due("from end to end by explanations", () -> court.verdictByExplanations(3), 'g');
            court.dropStatement(0);
            Check.due("the end cut off", court::groupCount, 2);
        });
        of("A group is contradictory if there is no way to call its lanterns guilty or innocent so that all statements about "
                + "them and all their admissions are true.", () -> {
            LanternCourt court = Check.courtWith(8);
            for (int i = 0; i < 7; i++) {
                court.makeStatement(i, i + 1, false);
            }
            Check.due("a chain", () -> court.isContradictory(0), false);
            court.makeStatement(7, 0, false);
            Check.due("an even ring", () -> court.isContradictory(0), false);
            court.makeStatement(6, 0, false);
            Check.due("an odd ring in it", () -> court.isContradictory(7), true);
            court.dropStatement(8);
            court.admit(0, true);
            court.admit(6, true);
            Check.due("admissions that fit", () -> court.isContradictory(3), false);
            court.admit(6, false);
            Check.due("admissions that do not", () -> court.isContradictory(3), true);
            LanternCourt alone = Check.courtWith(2);
            alone.admit(0, true);
            alone.admit(1, false);
            Check.due("admissions of different groups", () -> alone.isContradictory(0) || alone.isContradictory(1), false);
        });
    }

    private static void verdictIs(LanternCourt court, int lantern, char due) {
        Check.due("lantern " + lantern, () -> court.verdict(lantern), due);
        Check.due("lantern " + lantern + " by explanations", () -> court.verdictByExplanations(lantern), due);
    }

    private static void verdicts() {
        of("The verdict on a lantern is 'm' (mistrial) if its group is contradictory.", () -> {
            LanternCourt court = Check.courtWith(4);
            court.makeStatement(0, 1, true);
            court.makeStatement(1, 0, false);
            verdictIs(court, 0, 'm');
            verdictIs(court, 1, 'm');
            court.admit(0, true);
            verdictIs(court, 0, 'm');
            court.makeStatement(1, 2, true);
            verdictIs(court, 2, 'm');
            verdictIs(court, 3, 'u');
            court.dropStatement(1);
            verdictIs(court, 2, 'g');
        });
        of("Otherwise it is 'g' (guilty) if the lantern is guilty in every way to call the lanterns of its group guilty or "
                + "innocent so that all statements about them and all their admissions are true, 'i' (innocent) if it is "
                + "innocent in every such way, and 'u' (undecided) otherwise.", () -> {
            LanternCourt court = Check.courtWith(5);
            verdictIs(court, 0, 'u');
            court.makeStatement(0, 1, false);
            court.makeStatement(1, 2, true);
            verdictIs(court, 2, 'u');
            court.admit(2, false);
            verdictIs(court, 0, 'g');
            verdictIs(court, 1, 'i');
            verdictIs(court, 2, 'i');
            verdictIs(court, 3, 'u');
            court.admit(4, true);
            verdictIs(court, 4, 'g');
            verdictIs(court, 3, 'u');
            court.makeStatement(4, 3, false);
            verdictIs(court, 3, 'i');
            court.makeStatement(3, 4, true);
            verdictIs(court, 3, 'm');
            verdictIs(court, 0, 'g');
        });
    }

    private static void sentences() {
        of("When a lantern is found guilty, it gets a sentence of as many days as the severity of the brief.", () -> {
            for (int severity = 1; severity <= 9; severity++) {
                LanternCourt court = Courts.foundGuilty(1, severity);
                Check.due("severity " + severity + ", a day of which is served", () -> court.daysUntilFree(0), severity - 1);
                Check.due("a sentence of one day is over at once", () -> court.sentenceCount(0), severity == 1 ? 0 : 1);
            }
            LanternCourt court = Check.courtWith(1);
            court.admit(0, false);
            Check.sentence(court, 0, 9);
            Check.due("innocent", () -> court.sentenceCount(0), 0);
            court.retract(0);
            Check.sentence(court, 0, 9);
            Check.due("undecided", () -> court.sentenceCount(0), 0);
        });
        of("A lantern serves the first of its sentences; the others wait in the order in which they were given.", () -> {
            LanternCourt court = Check.courtWith(1);
            court.admit(0, true);
            for (int severity : new int[] {4, 2, 7}) {
                Check.sentence(court, 0, severity);
            }
            Check.due("the first is served, the others wait", () -> Check.lantern(court, 0), "0******g/1/2/7");
            court.passDays(1);
            Check.due("the second is served next", () -> Check.lantern(court, 0), "0*****g/2/7");
            court.passDays(2);
            Check.due("the third comes last", () -> Check.lantern(court, 0), "0***g/7");
        });
        of("A lantern has at most 8 sentences; a further one is not given.", () -> {
            LanternCourt court = Courts.foundGuilty(8, 9);
            Check.due("the eighth", () -> Check.lantern(court, 0), "0*g/1/9/9/9/9/9/9/9");
            court.file(0, 1, 50, 8);
            Check.due("it is heard all the same", () -> court.passDays(1), 1);
            Check.due("with this verdict", () -> court.hearingCount('g'), 9);
            Check.due("not given, for the first was over after the hearing", () -> Check.lantern(court, 0), "0g/9/9/9/9/9/9/9");
            Check.due("its fee is kept", court::paidBack, 0);
            Check.sentence(court, 0, 7);
            Check.due("the next one is given", () -> Check.lantern(court, 0), "0g/8/9/9/9/9/9/9/7");
            Check.sentence(court, 0, 6);
            Check.due("a further one is not", () -> Check.lantern(court, 0), "0g/7/9/9/9/9/9/9/7");
            court.pardon(0);
            Check.sentence(court, 0, 5);
            Check.due("a pardon makes room", () -> Check.lantern(court, 0), "0g/8/9/9/9/9/9/7/5");
        });
    }

    private static void aDay() {
        of("When a day passes, the following happens in this order.", () -> {
            LanternCourt court = Check.courtWith(2);
            court.admit(0, true);
            court.file(0, 1, 9, 1);
            Check.due("heard on its last day before it could lapse", () -> court.passDays(1), 1);
            Check.due("no lapse", court::lapsedCount, 0);
            Check.due("dimmed after the hearing of the same day", () -> court.brightness(0), 8);
            Check.due("and free after it", () -> court.sentenceCount(0), 0);
        });
        of("First, the present day increases by 1.", () -> {
            LanternCourt court = new LanternCourt();
            for (int i = 1; i <= 9; i++) {
                court.passDays(1);
                Check.due("day", court::day, i);
            }
            court.passDays(9);
            Check.due("nine days more", court::day, 18);
        });
        of("Second, if the plan that was made before this increase has a hearing, its first brief is heard and does not wait any "
                + "more: the verdict on its lantern at this time decides.", () -> {
            LanternCourt court = Check.courtWith(1);
            Check.due("no hearing in an empty plan", () -> court.passDays(1), 0);
            court.file(0, 1, 1, 2);
            Check.due("its first and last day is the next one", () -> court.passDays(1), 1);
            Check.due("it does not wait any more", court::briefCount, 0);
            court.file(0, 2, 1, 2);
            court.file(0, 1, 1, 2);
            court.passDays(1);
            Check.due("the first brief of the plan is heard, not the first that was filed", () -> court.briefAt(0), 1);
            court.admit(0, true);
            court.passDays(1);
            Check.due("the verdict at this time", () -> court.hearingCount('g'), 1);
            Check.due("and not at that of the filing", () -> court.hearingCount('u'), 2);
        });
        of("If it is 'g', the lantern gets a sentence.", () -> {
            LanternCourt court = Check.courtWith(3);
            court.makeStatement(1, 2, true);
            court.admit(2, true);
            court.file(1, 1, 9, 5);
            court.passDays(1);
            Check.due("the lantern of the brief", () -> court.daysLeft(1), 4);
            Check.due("not the others of its group", () -> court.sentenceCount(2), 0);
            Check.due("nor the others", () -> court.sentenceCount(0), 0);
            Check.due("the fee is kept", court::courtCoins, 9);
        });
        of("If it is 'm', half of the fee, rounded down, is paid back.", () -> {
            for (int fee : new int[] {1, 2, 3, 49, 50}) {
                LanternCourt court = Check.courtWith(2);
                court.makeStatement(0, 1, true);
                court.makeStatement(0, 1, false);
                court.file(0, 1, fee, 9);
                court.passDays(1);
                Check.due("fee " + fee, court::paidBack, fee / 2);
                Check.due("the rest is kept", court::courtCoins, (fee + 1) / 2);
                Check.due("a mistrial gives no sentence", () -> court.sentenceCount(0), 0);
            }
            LanternCourt court = Check.courtWith(2);
            court.admit(0, false);
            court.file(0, 2, 50, 9);
            court.file(1, 2, 50, 9);
            court.passDays(2);
            Check.due("nothing is paid back for the innocent and the undecided", court::paidBack, 0);
        });
        of("Third, each waiting brief whose last day is not after the present day lapses: it does not wait any more, and its whole "
                + "fee is paid back.", () -> {
            LanternCourt court = Check.courtWith(1);
            for (int fee : new int[] {50, 49, 1, 7}) {
                court.file(0, 1, fee, 1);
            }
            court.file(0, 2, 3, 1);
            court.file(0, 2, 2, 1);
            court.passDays(1);
            Check.due("all with this last day that were not heard", court::lapsedCount, 3);
            Check.due("their whole fees", court::paidBack, 57);
            Check.due("those with a day left wait", court::briefCount, 2);
            Check.due("which ones", () -> court.briefAt(0) * 10 + court.briefAt(1), 45);
            court.passDays(1);
            Check.due("on the next day", court::lapsedCount, 4);
            Check.due("its whole fee", court::paidBack, 59);
            Check.due("none waits", court::briefCount, 0);
        });
        of("Fourth, each lantern that has a sentence becomes dimmer by 1, but not below 0, and serves one day of the first one; if "
                + "it was the last day, that sentence is over.", () -> {
            LanternCourt court = Courts.foundGuilty(2, 9);
            court.passDays(6);
            Check.due("eight days served", () -> Check.lantern(court, 0), "0*g/1/9");
            court.passDays(1);
            Check.due("the last day of the first one", () -> Check.lantern(court, 0), "0g/9");
            court.passDays(1);
            Check.due("not below 0", () -> Check.lantern(court, 0), "0g/8");
            court.passDays(8);
            Check.due("free, and not brighter on the day of the last one", () -> Check.lantern(court, 0), "0g");
            Check.fails("no sentence is left", () -> court.daysLeft(0), NoSuchElementException.class);
            Check.due("eighteen days served", court::servedDays, 18);
        });
        of("Every other lantern becomes brighter by 1, but not above 9.", () -> {
            LanternCourt court = Courts.foundGuilty(2, 9);
            court.addLantern();
            court.passDays(7);
            court.pardon(0);
            for (int i = 1; i <= 10; i++) {
                court.passDays(1);
                Check.due("day " + i, () -> court.brightness(0), Math.min(9, i));
                Check.due("another one", () -> court.brightness(1), 9);
            }
        });
    }
}
