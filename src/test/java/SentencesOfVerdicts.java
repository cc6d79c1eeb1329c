import java.util.NoSuchElementException;

/** Promises 32 to 49: questions about groups, verdicts, explanations and sums. */
final class SentencesOfVerdicts {
    private SentencesOfVerdicts() {
    }

    static void test() {
        groupCount();
        isContradictory();
        relation();
        verdict();
        verdictByExplanations();
        explanations();
        explanationsByTrial();
        leastFalse();
        leastFalseBySets();
        lanternByBrightness();
        coins();
        hearingCount();
        lapsedCount();
        servedDays();
        meanBrightness();
        guiltyShare();
        isConsistent();
    }

    /** Lanterns 0 to 2 make an odd ring, 3 and 4 are apart, 5 and 6 together, 7 is alone. */
    private static LanternCourt groups() {
        LanternCourt court = Check.courtWith(8);
        court.makeStatement(0, 1, true);
        court.makeStatement(1, 2, true);
        court.makeStatement(2, 0, false);
        court.makeStatement(3, 4, false);
        court.makeStatement(6, 5, true);
        return court;
    }

    private static void groupCount() {
        Sentences.of(32, "Returns the number of groups.", () -> {
            Check.due("no lanterns", () -> new LanternCourt().groupCount(), 0);
            Check.due("one lantern", () -> Check.courtWith(1).groupCount(), 1);
            Check.due("each of eight alone", () -> Check.courtWith(8).groupCount(), 8);
            LanternCourt court = groups();
            Check.due("a contradictory one counts too", court::groupCount, 4);
            court.admit(3, true);
            court.admit(7, true);
            Check.due("admissions do not connect", court::groupCount, 4);
            court.makeStatement(0, 3, true);
            court.makeStatement(4, 5, true);
            court.makeStatement(6, 7, false);
            Check.due("all in one", court::groupCount, 1);
        });
    }

    private static void isContradictory() {
        Sentences.of(33, "Returns whether the group of a lantern is contradictory.", () -> {
            LanternCourt court = groups();
            for (int i = 0; i < 8; i++) {
                int lantern = i;
                Check.due("lantern " + i, () -> court.isContradictory(lantern), i < 3);
            }
            court.admit(5, true);
            court.admit(6, false);
            Check.due("by the admissions", () -> court.isContradictory(6), true);
            court.admit(6, true);
            Check.due("not any more", () -> court.isContradictory(6), false);
        });
        Sentences.of(33, "Returns true if it is.", () -> {
            LanternCourt court = Courts.withStatements(11);
            Check.due("eleven that agree", () -> court.isContradictory(0), false);
            court.makeStatement(1, 0, false);
            Check.due("one that does not", () -> court.isContradictory(0), true);
            Check.due("for the other too", () -> court.isContradictory(1), true);
        });
        Arguments.lantern(33, LanternCourt::isContradictory);
    }

    private static void relation() {
        Sentences.of(34, "Returns what the statements alone say about two lanterns, admissions not regarded: '+' if they are together and '-' "
                + "if they are apart wherever all statements of their group are true, and '?' if they are in different groups.", () -> {
            LanternCourt court = groups();
            Check.due("together", () -> court.relation(5, 6), '+');
            Check.due("apart", () -> court.relation(4, 3), '-');
            Check.due("different groups", () -> court.relation(7, 5), '?');
            Check.due("different groups, one contradictory", () -> court.relation(0, 7), '?');
            Check.due("the other way round", () -> court.relation(7, 0), '?');
            court.admit(5, true);
            court.admit(6, false);
            Check.due("admissions that make it contradictory", () -> court.relation(5, 6), '+');
            court.admit(7, true);
            Check.due("admissions of different groups", () -> court.relation(5, 7), '?');
            court.makeStatement(4, 6, false);
            Check.due("over others, apart of apart", () -> court.relation(3, 5), '+');
        });
        Sentences.of(34, "- `first`: index of a lantern", () -> {
            LanternCourt court = groups();
            Check.due("the least", () -> court.relation(0, 6), '?');
            Check.due("the greatest", () -> court.relation(7, 6), '?');
        });
        Sentences.of(34, "- `second`: index of a lantern, which may be the same", () -> {
            LanternCourt court = groups();
            Check.due("the least", () -> court.relation(6, 0), '?');
            Check.due("the greatest", () -> court.relation(6, 7), '?');
            Check.due("the same, alone", () -> court.relation(7, 7), '+');
            Check.due("the same, in a group", () -> court.relation(4, 4), '+');
            Check.refuses("the same, in a contradictory group", court, () -> court.relation(1, 1), NoSuchElementException.class);
        });
        Sentences.of(34, "Returns the relation.", () -> {
            LanternCourt court = Check.courtWith(8);
            for (int i = 0; i < 7; i++) {
                court.makeStatement(i + 1, i, i % 3 == 0);
            }
            String due = "++-++-++";
            for (int i = 0; i < 8; i++) {
                int lantern = i;
                Check.due("of 0 and " + i, () -> court.relation(0, lantern), due.charAt(i));
                Check.due("of " + i + " and 0", () -> court.relation(lantern, 0), due.charAt(i));
            }
        });
        Sentences.of(34, "Throws `IndexOutOfBoundsException` if there is no such lantern, for either", () -> {
            LanternCourt court = groups();
            for (int i : new int[] {-1, 8, Integer.MIN_VALUE, Integer.MAX_VALUE}) {
                // Lantern 0 is in a contradictory group, whose exception would come second.
                Check.refuses("first " + i, court, () -> court.relation(i, 0), IndexOutOfBoundsException.class);
                Check.refuses("second " + i, court, () -> court.relation(0, i), IndexOutOfBoundsException.class);
                Check.refuses("both " + i, court, () -> court.relation(i, i), IndexOutOfBoundsException.class);
            }
            LanternCourt none = new LanternCourt();
            Check.refuses("no lanterns", none, () -> none.relation(0, 0), IndexOutOfBoundsException.class);
        });
        Sentences.of(34, "Throws `NoSuchElementException` if they are in the same group, and its statements cannot all be true", () -> {
            LanternCourt court = groups();
            for (int i = 0; i < 9; i++) {
                int first = i / 3;
                int second = i % 3;
                Check.refuses(first + " and " + second, court, () -> court.relation(first, second), NoSuchElementException.class);
            }
            court.makeStatement(7, 2, true);
            Check.refuses("one that was joined", court, () -> court.relation(7, 0), NoSuchElementException.class);
            court.dropStatement(1);
            Check.due("one statement less", () -> court.relation(1, 7), '-');
        });
    }

    private static void verdictsAre(LanternCourt court, String due) {
        for (int i = 0; i < due.length(); i++) {
            int lantern = i;
            Check.due("verdict on " + i, () -> court.verdict(lantern), due.charAt(i));
        }
    }

    private static void verdictsByExplanationsAre(LanternCourt court, String due) {
        for (int i = 0; i < due.length(); i++) {
            int lantern = i;
            Check.due("verdict on " + i + " by explanations", () -> court.verdictByExplanations(lantern), due.charAt(i));
        }
    }

    private static void verdict() {
        Sentences.of(35, "Returns the verdict on a lantern, found by joining groups with sides.", () -> {
            LanternCourt court = groups();
            verdictsAre(court, "mmmuuuuu");
            court.admit(4, true);
            court.admit(6, false);
            court.admit(0, true);
            verdictsAre(court, "mmmigiiu");
            court.makeStatement(7, 4, true);
            court.makeStatement(3, 5, false);
            verdictsAre(court, "mmmmmmmm");
        });
        Sentences.of(35, "Returns the verdict.", () -> {
            LanternCourt court = Check.courtWith(8);
            for (int i = 0; i < 8; i++) {
                court.admit(i, i > 4);
            }
            verdictsAre(court, "iiiiiggg");
            court.retract(7);
            verdictsAre(court, "iiiiiggu");
        });
        Arguments.lantern(35, LanternCourt::verdict);
    }

    private static void verdictByExplanations() {
        Sentences.of(36, "Returns the same verdict as verdict, found by trying all explanations.", () -> {
            LanternCourt court = groups();
            verdictsByExplanationsAre(court, "mmmuuuuu");
            court.admit(4, true);
            court.admit(6, false);
            court.admit(0, true);
            verdictsByExplanationsAre(court, "mmmigiiu");
            court.makeStatement(7, 4, true);
            court.makeStatement(3, 5, false);
            verdictsByExplanationsAre(court, "mmmmmmmm");
            for (int lanterns : new int[] {1, 2, 8}) {
                for (boolean guilty : new boolean[] {true, false}) {
                    LanternCourt chain = Check.courtWith(lanterns);
                    for (int i = 1; i < lanterns; i++) {
                        chain.makeStatement(i - 1, i, true);
                    }
                    verdictsByExplanationsAre(chain, "u".repeat(lanterns));
                    chain.admit(lanterns - 1, guilty);
                    verdictsByExplanationsAre(chain, (guilty ? "g" : "i").repeat(lanterns));
                }
            }
        });
        Sentences.of(36, "Returns the verdict.", () -> {
            LanternCourt court = Check.courtWith(8);
            for (int i = 0; i < 8; i++) {
                court.admit(i, i > 4);
            }
            verdictsByExplanationsAre(court, "iiiiiggg");
            court.retract(7);
            verdictsByExplanationsAre(court, "iiiiiggu");
        });
        Arguments.lantern(36, LanternCourt::verdictByExplanations);
    }

    private static void explanations() {
        Sentences.of(37, "Returns the number of possible explanations, computed from the groups.", () -> {
            LanternCourt court = groups();
            Check.due("a contradictory group", court::explanations, 0);
            court.dropStatement(2);
            Check.due("four groups", court::explanations, 16);
            court.admit(3, true);
            court.admit(4, false);
            Check.due("a group is decided once", court::explanations, 8);
            court.admit(4, true);
            Check.due("a group contradictory by its admissions", court::explanations, 0);
        });
        Sentences.of(37, "Returns the number; 1 if there are no lanterns.", () -> {
            Check.due("no lanterns", () -> new LanternCourt().explanations(), 1);
            Check.due("one lantern", () -> Check.courtWith(1).explanations(), 2);
            Check.due("the most", () -> Check.courtWith(8).explanations(), 256);
            Check.due("all decided", () -> Courts.serving(8).explanations(), 1);
        });
    }

    private static void explanationsByTrial() {
        Sentences.of(38, "Returns the same number as explanations, found by trying all explanations.", () -> {
            LanternCourt court = groups();
            Check.due("a contradictory group", court::explanationsByTrial, 0);
            court.dropStatement(2);
            Check.due("four groups", court::explanationsByTrial, 16);
            court.admit(3, true);
            court.admit(4, false);
            Check.due("a group is decided once", court::explanationsByTrial, 8);
            court.admit(4, true);
            Check.due("a group contradictory by its admissions", court::explanationsByTrial, 0);
        });
        Sentences.of(38, "Returns the number.", () -> {
            Check.due("no lanterns", () -> new LanternCourt().explanationsByTrial(), 1);
            Check.due("one lantern", () -> Check.courtWith(1).explanationsByTrial(), 2);
            Check.due("the most", () -> Check.courtWith(8).explanationsByTrial(), 256);
            Check.due("all decided", () -> Courts.serving(8).explanationsByTrial(), 1);
        });
    }

    /** Two lanterns that have admitted their guilt, though all 12 statements say that they are apart. */
    private static LanternCourt allFalse() {
        LanternCourt court = Courts.serving(2);
        for (int i = 0; i < 12; i++) {
            court.makeStatement(i % 2, 1 - i % 2, false);
        }
        return court;
    }

    private static void leastFalse() {
        Sentences.of(39, "Returns the least number of statements that are false in an explanation in which all admissions are true, found by "
                + "trying all explanations.", () -> {
            LanternCourt court = groups();
            Check.due("one ring", court::leastFalse, 1);
            court.admit(0, true);
            court.admit(2, false);
            Check.due("the admissions agree with the ring's third statement", court::leastFalse, 1);
            court.admit(2, true);
            Check.due("and now with the two others", court::leastFalse, 1);
            court.admit(1, false);
            Check.due("and with none", court::leastFalse, 3);
            court.admit(5, true);
            court.admit(6, false);
            Check.due("in two groups", court::leastFalse, 4);
        });
        Sentences.of(39, "Returns the number of statements.", () -> {
            Check.due("no lanterns", () -> new LanternCourt().leastFalse(), 0);
            Check.due("no statements", () -> Courts.serving(8).leastFalse(), 0);
            Check.due("twelve true ones", () -> Courts.withStatements(12).leastFalse(), 0);
            Check.due("the most", () -> allFalse().leastFalse(), 12);
        });
    }

    private static void leastFalseBySets() {
        Sentences.of(40, "Returns the same number as leastFalse, found as the least number of statements that have to be dropped so that an "
                + "explanation is possible, by trying all sets of statements.", () -> {
            LanternCourt court = groups();
            Check.due("one ring", court::leastFalseBySets, 1);
            court.admit(0, true);
            court.admit(2, true);
            court.admit(1, false);
            Check.due("all three", court::leastFalseBySets, 3);
            court.admit(5, true);
            court.admit(6, false);
            int least = court.leastFalseBySets();
            Check.due("and one of another group", () -> least, 4);
            for (int statement : new int[] {4, 2, 1, 0}) {
                Check.due("none is possible yet", court::explanations, 0);
                court.dropStatement(statement);
            }
            Check.due("possible without them", court::explanations, 4);
        });
        Sentences.of(40, "Returns the number of statements.", () -> {
            Check.due("no lanterns", () -> new LanternCourt().leastFalseBySets(), 0);
            Check.due("no statements", () -> Courts.serving(8).leastFalseBySets(), 0);
            Check.due("twelve true ones", () -> Courts.withStatements(12).leastFalseBySets(), 0);
            Check.due("the most", () -> allFalse().leastFalseBySets(), 12);
        });
    }

    private static void ranksAre(LanternCourt court, int... due) {
        for (int i = 0; i < due.length; i++) {
            int rank = i;
            Check.due("rank " + i, () -> court.lanternByBrightness(rank), due[i]);
        }
    }

    private static void lanternByBrightness() {
        Sentences.of(41, "Returns the lantern at a rank when all lanterns are sorted by brightness in ascending order, then by the days that they "
                + "will serve in descending order, then by index in ascending order.", () -> {
            ranksAre(Check.courtWith(8), 0, 1, 2, 3, 4, 5, 6, 7);
            ranksAre(Courts.serving(8), 0, 1, 2, 3, 4, 5, 6, 7);
            LanternCourt court = Check.courtWith(5);
            for (int i = 1; i < 5; i++) {
                court.admit(i, true);
            }
            court.file(4, 1, 9, 9);
            court.passDays(1);
            ranksAre(court, 4, 0, 1, 2, 3);
            court.file(2, 1, 9, 3);
            court.passDays(1);
            court.pardon(4);
            court.passDays(1);
            // Lantern 4 is at 8 with no day to serve, 2 at 7 with one.
            ranksAre(court, 2, 4, 0, 1, 3);
            court.file(3, 1, 9, 2);
            court.file(1, 2, 9, 9);
            court.passDays(1);
            // Lantern 2 is at 6 with none, 3 at 8 with one, 4 and the others at 9.
            ranksAre(court, 2, 3, 0, 1, 4);
            court.pardon(3);
            court.passDays(1);
            // Lantern 2 is at 7, 1 at 8 with eight days, the others at 9.
            ranksAre(court, 2, 1, 0, 3, 4);
            court.passDays(1);
            // Lantern 1 is at 7 with seven days, 2 at 8.
            ranksAre(court, 1, 2, 0, 3, 4);
            equalBrightness();
        });
        Sentences.of(41, "- `rank`: the rank, counted from 0", () -> {
            LanternCourt court = Check.courtWith(8);
            Check.due("the first", () -> court.lanternByBrightness(0), 0);
            Check.due("the last", () -> court.lanternByBrightness(7), 7);
        });
        Sentences.of(41, "Returns the index of the lantern.", () -> {
            LanternCourt court = Check.courtWith(2);
            court.admit(1, true);
            Check.sentence(court, 1, 1);
            Check.due("the greatest index at the first rank", () -> court.lanternByBrightness(0), 1);
            Check.due("the least at the last", () -> court.lanternByBrightness(1), 0);
        });
        Sentences.of(41, "Throws `NoSuchElementException` if there is no such rank", () -> {
            for (int lanterns : new int[] {0, 1, 8}) {
                LanternCourt court = Check.courtWith(lanterns);
                for (int rank : new int[] {-1, lanterns, 8, 9, Integer.MIN_VALUE, Integer.MAX_VALUE}) {
                    Check.refuses("rank " + rank + " of " + lanterns, court, () -> court.lanternByBrightness(rank), NoSuchElementException.class);
                }
            }
        });
    }

    /** Lantern 1 was dimmed twice and is one brighter again when 2 is dimmed for the first time. */
    private static LanternCourt equallyBright(int days) {
        LanternCourt court = Check.courtWith(3);
        court.admit(1, true);
        court.admit(2, true);
        Check.sentence(court, 1, 2);
        court.passDays(1);
        Check.sentence(court, 2, days);
        return court;
    }

    private static void equalBrightness() {
        LanternCourt free = equallyBright(2);
        Check.due("lantern 1", () -> Check.lantern(free, 1), "1********g");
        Check.due("lantern 2", () -> Check.lantern(free, 2), "2********g/1");
        ranksAre(free, 2, 1, 0);
        free.pardon(2);
        ranksAre(free, 1, 2, 0);
        for (int days = 5; days <= 7; days++) {
            LanternCourt court = equallyBright(days);
            Check.sentence(court, 1, 5);
            Check.due("lantern 1", () -> Check.lantern(court, 1), "1*******g/4");
            Check.due("lantern 2", () -> Check.lantern(court, 2), "2*******g/" + (court.daysLeft(2)));
            ranksAre(court, days <= 6 ? new int[] {1, 2, 0} : new int[] {2, 1, 0});
        }
        for (int days = 1; days <= 3; days++) {
            LanternCourt court = equallyBright(4);
            Check.sentence(court, 1, 5);
            Check.sentence(court, 2, days);
            Check.due("lantern 1", () -> Check.lantern(court, 1), "1******g/3");
            Check.due("lantern 2", () -> Check.lantern(court, 2), "2******g/1/" + (court.daysUntilFree(2) - 1));
            ranksAre(court, days <= 2 ? new int[] {1, 2, 0} : new int[] {2, 1, 0});
        }
    }

    private static void coins() {
        Sentences.of(42, "Returns the fees that the court has kept: all fees without what was paid back.", () -> {
            LanternCourt court = groups();
            court.file(7, 12, 11, 1);
            court.file(0, 1, 50, 1);
            court.file(7, 1, 9, 1);
            Check.due("all fees", court::courtCoins, 70);
            court.withdraw(0);
            Check.due("without half of the withdrawn one's", court::courtCoins, 65);
            court.passDays(1);
            Check.due("without half of the mistrial's and all of the lapsed one's", court::courtCoins, 31);
        });
        Sentences.of(42, "Returns the number of coins.", () -> {
            Check.due("none", () -> new LanternCourt().courtCoins(), 0);
            Check.due("the most of ten", () -> Courts.withEqualBriefs(10, 12, 50).courtCoins(), 500);
            LanternCourt court = Courts.withEqualBriefs(10, 1, 50);
            court.passDays(1);
            Check.due("all but one have lapsed", court::courtCoins, 50);
        });
        Sentences.of(43, "Returns how much has been paid back so far.", () -> {
            LanternCourt court = groups();
            court.file(7, 12, 11, 1);
            court.file(0, 1, 49, 1);
            court.file(7, 1, 9, 1);
            Check.due("nothing yet", court::paidBack, 0);
            court.withdraw(0);
            Check.due("half of the withdrawn one's", court::paidBack, 5);
            court.passDays(1);
            Check.due("half of the mistrial's and all of the lapsed one's", court::paidBack, 5 + 24 + 9);
        });
        Sentences.of(43, "Returns the number of coins.", () -> {
            Check.due("none", () -> new LanternCourt().paidBack(), 0);
            LanternCourt court = Courts.withEqualBriefs(10, 1, 50);
            court.passDays(1);
            Check.due("nine have lapsed", court::paidBack, 450);
        });
    }

    private static String hearings(LanternCourt court) {
        return court.hearingCount('g') + " " + court.hearingCount('i') + " " + court.hearingCount('u') + " " + court.hearingCount('m');
    }

    /** One was found guilty, two innocent, three undecided and four had a mistrial. */
    private static LanternCourt tenHearings() {
        LanternCourt court = groups();
        court.admit(7, true);
        court.admit(5, false);
        for (int lantern : new int[] {7, 5, 6, 3, 4, 3, 0, 1, 2, 0}) {
            Check.sentence(court, lantern, 1);
        }
        return court;
    }

    private static void hearingCount() {
        Sentences.of(44, "Returns how many hearings have ended with a verdict so far.", () -> {
            LanternCourt court = tenHearings();
            Check.same("hearings", hearings(court), "1 2 3 4");
            court.file(7, 1, 9, 1);
            court.file(7, 1, 8, 1);
            Check.same("none by filing", hearings(court), "1 2 3 4");
            court.passDays(1);
            Check.same("none by lapsing", hearings(court), "2 2 3 4");
        });
        Sentences.of(44, "- `verdict`: the verdict, 'g', 'i', 'u' or 'm'", () -> {
            for (char verdict : "gium".toCharArray()) {
                Check.due("with " + verdict, () -> new LanternCourt().hearingCount(verdict), 0);
            }
        });
        Sentences.of(44, "Returns the number of hearings.", () -> {
            LanternCourt court = Check.courtWith(1);
            for (int i = 1; i <= 20; i++) {
                Check.sentence(court, 0, 1);
                Check.due("number", () -> court.hearingCount('u'), i);
            }
        });
        Sentences.of(44, "Throws `IllegalArgumentException` if there is no such verdict", () -> {
            LanternCourt court = tenHearings();
            for (char verdict : new char[] {0, ' ', '?', 'G', 'I', 'U', 'M', 'f', 'h', 'a', 'n', (char) ('g' + 256), '\uffff'}) {
                Check.refuses("verdict " + (int) verdict, court, () -> court.hearingCount(verdict), IllegalArgumentException.class);
            }
        });
    }

    private static void lapsedCount() {
        Sentences.of(45, "Returns how many briefs have lapsed so far.", () -> {
            LanternCourt court = Courts.withEqualBriefs(4, 1, 1);
            court.withdraw(3);
            Check.due("a withdrawn one has not", court::lapsedCount, 0);
            court.passDays(1);
            Check.due("two that were not heard", court::lapsedCount, 2);
            court.file(0, 2, 1, 1);
            court.file(0, 2, 1, 1);
            court.file(0, 2, 1, 1);
            court.passDays(1);
            Check.due("none before its last day", court::lapsedCount, 2);
            court.passDays(1);
            Check.due("one on it", court::lapsedCount, 3);
        });
        Sentences.of(45, "Returns the number of briefs.", () -> {
            Check.due("none", () -> new LanternCourt().lapsedCount(), 0);
            LanternCourt court = Courts.withEqualBriefs(10, 1, 1);
            court.passDays(9);
            Check.due("the most of one day", court::lapsedCount, 9);
        });
    }

    private static void servedDays() {
        Sentences.of(46, "Returns how many days of sentences lanterns have served so far, all lanterns together.", () -> {
            LanternCourt court = Courts.serving(3);
            Check.due("three, two and one", court::servedDays, 6);
            court.passDays(1);
            Check.due("one of each", court::servedDays, 9);
            court.pardon(2);
            Check.due("not those that were pardoned", court::servedDays, 9);
            court.passDays(9);
            Check.due("all of the two others", court::servedDays, 9 + 9 + 2);
        });
        Sentences.of(46, "Returns the number of days.", () -> {
            Check.due("none", () -> new LanternCourt().servedDays(), 0);
            Check.due("the only one of a sentence", () -> Courts.foundGuilty(1, 1).servedDays(), 1);
            LanternCourt idle = Check.courtWith(8);
            idle.passDays(9);
            Check.due("none without a sentence", idle::servedDays, 0);
        });
    }

    private static void meanBrightness() {
        Sentences.of(47, "Returns the mean brightness of all lanterns: the sum converted to double, divided by their number converted to double.", () -> {
            LanternCourt court = Courts.serving(3);
            Check.due("three", court::meanBrightness, 21.0 / 3.0);
            court.passDays(1);
            court.pardon(0);
            court.passDays(1);
            Check.due("six, five and six", court::meanBrightness, 17.0 / 3.0);
        });
        Sentences.of(47, "Returns the mean.", () -> {
            Check.due("the greatest", () -> Check.courtWith(8).meanBrightness(), 9.0);
            LanternCourt court = Courts.foundGuilty(2, 9);
            court.passDays(7);
            Check.due("the least", court::meanBrightness, 0.0);
            for (int i = 2; i <= 8; i++) {
                court.addLantern();
                Check.due(i + " lanterns", court::meanBrightness, (double) (9 * (i - 1)) / (double) i);
            }
        });
        Sentences.of(47, "Throws `ArithmeticException` if there are no lanterns", () -> {
            LanternCourt court = new LanternCourt();
            Check.refuses("none", court, court::meanBrightness, ArithmeticException.class);
            court.addLantern();
            Check.due("one", court::meanBrightness, 9.0);
            court.undo();
            Check.refuses("none again", court, court::meanBrightness, ArithmeticException.class);
        });
    }

    private static void guiltyShare() {
        Sentences.of(48, "Returns the share of hearings with the verdict 'g' among all hearings so far, both numbers converted to float.", () -> {
            LanternCourt court = tenHearings();
            Check.due("one of ten", court::guiltyShare, 1.0f / 10.0f);
            Check.sentence(court, 7, 1);
            Check.due("two of eleven", court::guiltyShare, 2.0f / 11.0f);
        });
        Sentences.of(48, "Returns the share.", () -> {
            LanternCourt court = Courts.foundGuilty(1, 1);
            Check.due("all", court::guiltyShare, 1.0f);
            court.retract(0);
            for (int i = 2; i <= 7; i++) {
                Check.sentence(court, 0, 1);
                Check.due("one of " + i, court::guiltyShare, 1.0f / (float) i);
            }
            LanternCourt none = Courts.withEqualBriefs(1, 1, 1);
            none.passDays(1);
            Check.due("none", none::guiltyShare, 0.0f);
        });
        Sentences.of(48, "Throws `ArithmeticException` if there was no hearing", () -> {
            LanternCourt court = Check.courtWith(1);
            Check.refuses("a new court", court, court::guiltyShare, ArithmeticException.class);
            court.passDays(9);
            court.file(0, 1, 1, 1);
            Check.refuses("a brief that waits", court, court::guiltyShare, ArithmeticException.class);
            court.passDays(1);
            Check.due("a hearing", court::guiltyShare, 0.0f);
            court.undo();
            court.withdraw(0);
            Check.refuses("a brief that was withdrawn", court, court::guiltyShare, ArithmeticException.class);
        });
    }

    private static void isConsistent() {
        Sentences.of(49, "Checks the state by a second method: both ways agree to find the fees of the plan, all verdicts, the number of explanations, "
                + "and the least number of false statements.", () -> {
            for (LanternCourt court : new LanternCourt[] {groups(), allFalse(), tenHearings(), Courts.serving(8), Courts.withBriefs()}) {
                Check.due("fees", court::planFee, court.planFeeBySets());
                for (int i = 0; i < court.lanternCount(); i++) {
                    int lantern = i;
                    Check.due("verdict", () -> court.verdict(lantern), court.verdictByExplanations(i));
                }
                Check.due("explanations", court::explanations, court.explanationsByTrial());
                Check.due("least false", court::leastFalse, court.leastFalseBySets());
                Check.due("all of this", court::isConsistent, true);
            }
        });
        Sentences.of(49, "Returns true if all of this holds.", () -> {
            Check.due("a new court", () -> new LanternCourt().isConsistent(), true);
            LanternCourt full = Courts.serving(8);
            for (int i = 0; i < 12; i++) {
                full.makeStatement(i % 8, (i + 1 + i / 8) % 8, i % 5 == 0);
            }
            for (int i = 0; i < 10; i++) {
                full.file(i % 8, 1 + i * 5 % 7, 1 + i * 17 % 50, 9);
            }
            Check.due("a full court", full::isConsistent, true);
        });
    }
}
