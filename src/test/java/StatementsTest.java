import java.util.NoSuchElementException;

/** Promises 5, 6, 28 to 40 and 49: statements, groups, verdicts and explanations. */
final class StatementsTest {
    public static void main(String[] args) {
        makeStatement();
        dropStatement();
        groupCount();
        contradictions();
        relation();
        statementsAboutOneSide();
        verdicts();
        verdictsAcrossSides();
        verdictsOfOtherGroups();
        explanations();
        leastFalse();
        singleExplanations();
        isConsistent();
        Check.end();
    }

    private static void makeStatement() {
        LanternCourt court = Check.courtWith(3);
        Check.fails("5: first -1", () -> court.makeStatement(-1, 0, true), IndexOutOfBoundsException.class);
        Check.fails("5: first 3", () -> court.makeStatement(3, 0, true), IndexOutOfBoundsException.class);
        Check.fails("5: second -1", () -> court.makeStatement(0, -1, true), IndexOutOfBoundsException.class);
        Check.fails("5: second 3", () -> court.makeStatement(0, 3, true), IndexOutOfBoundsException.class);
        Check.fails("5: both 7", () -> court.makeStatement(7, 7, true), IndexOutOfBoundsException.class);
        Check.fails("5: the same", () -> court.makeStatement(1, 1, false), IllegalArgumentException.class);
        Check.due("28: none", court::statementCount, 0);
        for (int i = 0; i < 12; i++) {
            int index = i;
            Check.due("5: statement " + i, () -> court.makeStatement(index % 3, (index + 1) % 3, index == 4), index);
        }
        Check.fails("5: thirteenth", () -> court.makeStatement(0, 1, true), IllegalStateException.class);
        Check.fails("5: the same, when full", () -> court.makeStatement(0, 0, true), IllegalArgumentException.class);
        Check.fails("5: no lantern, when full", () -> court.makeStatement(0, 3, true), IndexOutOfBoundsException.class);
        Check.due("28: twelve", court::statementCount, 12);
        Check.due("29: first", () -> court.firstOf(4), 1);
        Check.due("30: second", () -> court.secondOf(4), 2);
        Check.due("30: second of the last", () -> court.secondOf(11), 0);
        Check.due("31: together", () -> court.isTogether(4), true);
        Check.due("31: apart", () -> court.isTogether(5), false);
    }

    private static void statementsAboutOneSide() {
        LanternCourt court = Check.courtWith(5);
        court.makeStatement(0, 1, false);
        court.makeStatement(2, 3, false);
        court.makeStatement(1, 2, false);
        court.makeStatement(3, 4, false);
        court.makeStatement(4, 0, true);
        Check.due("34: both sides turn when groups are joined", () -> court.relation(0, 3), '-');
        Check.due("34: the side next to it", () -> court.relation(0, 2), '+');
        Check.due("33: an even ring", () -> court.isContradictory(4), false);
    }

    private static void dropStatement() {
        LanternCourt court = Check.courtWith(4);
        Check.fails("6: none", () -> court.dropStatement(0), IndexOutOfBoundsException.class);
        court.makeStatement(0, 1, true);
        court.makeStatement(1, 2, false);
        court.makeStatement(3, 2, true);
        for (int index : new int[] {-1, 3}) {
            Check.fails("6: index " + index, () -> court.dropStatement(index), IndexOutOfBoundsException.class);
            Check.fails("29: index " + index, () -> court.firstOf(index), IndexOutOfBoundsException.class);
            Check.fails("30: index " + index, () -> court.secondOf(index), IndexOutOfBoundsException.class);
            Check.fails("31: index " + index, () -> court.isTogether(index), IndexOutOfBoundsException.class);
        }
        Check.due("6: drop the second", () -> court.dropStatement(1), 2);
        Check.due("6: the later index decreases", () -> court.firstOf(1), 3);
        Check.due("6: and its second", () -> court.secondOf(1), 2);
        Check.due("6: and its sense", () -> court.isTogether(1), true);
        Check.due("6: the earlier one stays", () -> court.secondOf(0), 1);
        Check.due("6: drop the last", () -> court.dropStatement(1), 1);
        Check.due("6: drop the first", () -> court.dropStatement(0), 0);
        Check.due("28: none left", court::statementCount, 0);
        for (int i = 0; i < 12; i++) {
            court.makeStatement(i % 4, (i + 1) % 4, i == 11);
        }
        Check.due("6: drop the last of twelve", () -> court.dropStatement(11), 11);
        Check.due("6: the new last one says apart", () -> court.isTogether(10), false);
        court.makeStatement(3, 1, true);
        Check.due("6: drop the first of twelve", () -> court.dropStatement(0), 11);
        Check.due("6: all the others move", () -> court.secondOf(10), 1);
    }

    private static void groupCount() {
        LanternCourt none = new LanternCourt();
        Check.due("32: no lanterns", none::groupCount, 0);
        LanternCourt court = Check.courtWith(8);
        Check.due("32: each alone", court::groupCount, 8);
        court.makeStatement(6, 7, true);
        court.makeStatement(0, 1, false);
        Check.due("32: two pairs", court::groupCount, 6);
        court.makeStatement(1, 0, true);
        Check.due("32: the same pair", court::groupCount, 6);
        court.makeStatement(7, 0, true);
        Check.due("32: pairs joined", court::groupCount, 5);
        court.dropStatement(0);
        Check.due("32: a statement less", court::groupCount, 6);
    }

    private static void contradictions() {
        LanternCourt court = Check.courtWith(6);
        court.makeStatement(0, 1, false);
        court.makeStatement(1, 2, false);
        Check.due("33: can be true", () -> court.isContradictory(0), false);
        court.makeStatement(0, 2, false);
        for (int i = 0; i < 6; i++) {
            int lantern = i;
            Check.due("33: odd ring, lantern " + i, () -> court.isContradictory(lantern), i < 3);
        }
        court.makeStatement(5, 2, true);
        Check.due("33: joined to the ring", () -> court.isContradictory(5), true);
        court.makeStatement(3, 4, true);
        court.admit(3, true);
        Check.due("33: one admission", () -> court.isContradictory(4), false);
        court.admit(4, false);
        Check.due("33: by admissions", () -> court.isContradictory(3), true);
        court.admit(4, true);
        Check.due("33: the same admissions", () -> court.isContradictory(3), false);
        Check.fails("33: lantern -1", () -> court.isContradictory(-1), IndexOutOfBoundsException.class);
        Check.fails("33: lantern 6", () -> court.isContradictory(6), IndexOutOfBoundsException.class);
    }

    private static void relation() {
        LanternCourt court = Check.courtWith(7);
        court.makeStatement(0, 1, false);
        court.makeStatement(1, 2, false);
        court.makeStatement(2, 3, true);
        Check.due("34: apart", () -> court.relation(0, 1), '-');
        Check.due("34: apart of apart", () -> court.relation(0, 2), '+');
        Check.due("34: over three", () -> court.relation(3, 1), '-');
        Check.due("34: together", () -> court.relation(3, 0), '+');
        Check.due("34: itself", () -> court.relation(1, 1), '+');
        Check.due("34: itself alone", () -> court.relation(6, 6), '+');
        Check.due("34: other group", () -> court.relation(0, 4), '?');
        court.admit(0, true);
        court.admit(1, true);
        Check.due("34: admissions not regarded", () -> court.relation(0, 1), '-');
        court.admit(4, true);
        Check.due("34: nor of other groups", () -> court.relation(0, 4), '?');
        court.makeStatement(4, 5, true);
        court.makeStatement(4, 5, false);
        Check.fails("34: contradictory", () -> court.relation(4, 5), NoSuchElementException.class);
        Check.fails("34: itself", () -> court.relation(5, 5), NoSuchElementException.class);
        Check.due("34: groups apart, one contradictory", () -> court.relation(5, 0), '?');
        Check.due("34: the other group", () -> court.relation(0, 1), '-');
        for (int lantern : new int[] {-1, 7}) {
            Check.fails("34: first " + lantern, () -> court.relation(lantern, 0), IndexOutOfBoundsException.class);
            Check.fails("34: second " + lantern, () -> court.relation(0, lantern), IndexOutOfBoundsException.class);
        }
    }

    private static void verdictOn(LanternCourt court, int lantern, char due) {
        Check.due("35: lantern " + lantern, () -> court.verdict(lantern), due);
        Check.due("36: lantern " + lantern, () -> court.verdictByExplanations(lantern), due);
    }

    private static void verdicts() {
        LanternCourt alone = Check.courtWith(1);
        verdictOn(alone, 0, 'u');
        alone.admit(0, false);
        verdictOn(alone, 0, 'i');
        alone.admit(0, true);
        verdictOn(alone, 0, 'g');
        LanternCourt court = Check.courtWith(3);
        verdictOn(court, 0, 'u');
        court.admit(0, true);
        court.admit(1, false);
        verdictOn(court, 0, 'g');
        verdictOn(court, 1, 'i');
        verdictOn(court, 2, 'u');
        court.makeStatement(0, 1, true);
        verdictOn(court, 0, 'm');
        verdictOn(court, 1, 'm');
        for (int lantern : new int[] {-1, 3}) {
            Check.fails("35: lantern " + lantern, () -> court.verdict(lantern), IndexOutOfBoundsException.class);
            Check.fails("36: lantern " + lantern, () -> court.verdictByExplanations(lantern), IndexOutOfBoundsException.class);
        }
    }

    private static void verdictsAcrossSides() {
        LanternCourt court = Check.courtWith(8);
        for (int i = 7; i > 0; i--) {
            court.makeStatement(i, i - 1, i % 2 == 0);
        }
        court.admit(4, false);
        // 7-6 apart, 6-5 together, 5-4 apart, 4-3 together, 3-2 apart, 2-1 together, 1-0 apart
        char[] due = {'i', 'g', 'g', 'i', 'i', 'g', 'g', 'i'};
        for (int i = 0; i < 8; i++) {
            verdictOn(court, i, due[i]);
        }
        court.admit(0, false);
        verdictOn(court, 7, 'i');
        court.admit(0, true);
        verdictOn(court, 7, 'm');
    }

    private static void verdictsOfOtherGroups() {
        LanternCourt court = Check.courtWith(4);
        court.makeStatement(0, 1, true);
        court.makeStatement(0, 1, false);
        court.makeStatement(2, 3, false);
        court.admit(2, true);
        verdictOn(court, 0, 'm');
        verdictOn(court, 2, 'g');
        verdictOn(court, 3, 'i');
    }

    private static void explanationsAre(LanternCourt court, int due) {
        Check.due("37: explanations", court::explanations, due);
        Check.due("38: explanations", court::explanationsByTrial, due);
    }

    private static void explanations() {
        explanationsAre(new LanternCourt(), 1);
        explanationsAre(Check.courtWith(1), 2);
        LanternCourt court = Check.courtWith(8);
        explanationsAre(court, 256);
        court.makeStatement(0, 7, true);
        explanationsAre(court, 128);
        court.admit(7, false);
        explanationsAre(court, 64);
        court.admit(0, false);
        explanationsAre(court, 64);
        court.admit(3, true);
        explanationsAre(court, 32);
        court.admit(0, true);
        explanationsAre(court, 0);
        court.retract(0);
        court.makeStatement(1, 2, true);
        court.makeStatement(2, 1, false);
        explanationsAre(court, 0);
    }

    private static void leastFalseIs(LanternCourt court, int due) {
        Check.due("39: least false", court::leastFalse, due);
        Check.due("40: least false", court::leastFalseBySets, due);
    }

    private static void leastFalse() {
        leastFalseIs(new LanternCourt(), 0);
        LanternCourt court = Check.courtWith(8);
        leastFalseIs(court, 0);
        court.makeStatement(0, 1, true);
        court.makeStatement(0, 1, true);
        court.makeStatement(0, 1, false);
        leastFalseIs(court, 1);
        court.admit(0, true);
        court.admit(1, false);
        leastFalseIs(court, 2);
        for (int i = 0; i < 3; i++) {
            court.makeStatement(5, 6, i == 0);
            court.makeStatement(6, 7, i == 1);
            court.makeStatement(7, 5, i == 2);
        }
        // Of each pair in the ring, one statement says together and two say apart.
        leastFalseIs(court, 2 + 4);
        LanternCourt full = Check.courtWith(2);
        full.admit(0, true);
        full.admit(1, true);
        for (int i = 0; i < 12; i++) {
            full.makeStatement(0, 1, false);
        }
        leastFalseIs(full, 12);
    }

    /** Cases in which a single explanation is the best one, the first and the last among them. */
    private static void singleExplanations() {
        for (boolean guilty : new boolean[] {false, true}) {
            LanternCourt court = Check.courtWith(3);
            for (int i = 0; i < 3; i++) {
                court.admit(i, guilty);
            }
            court.makeStatement(0, 1, true);
            explanationsAre(court, 1);
            leastFalseIs(court, 0);
            court.makeStatement(1, 2, false);
            explanationsAre(court, 0);
            leastFalseIs(court, 1);
            court.makeStatement(2, 0, false);
            leastFalseIs(court, 2);
        }
    }

    private static void isConsistent() {
        LanternCourt court = new LanternCourt();
        Check.due("49: new", court::isConsistent, true);
        for (int i = 0; i < 8; i++) {
            court.addLantern();
        }
        for (int i = 0; i < 12; i++) {
            court.makeStatement(i % 8, (i * 3 + 1) % 8 == i % 8 ? (i + 1) % 8 : (i * 3 + 1) % 8, i % 3 == 0);
            Check.due("49: with statements", court::isConsistent, true);
        }
        for (int i = 0; i < 10; i++) {
            court.file(i % 8, 1 + i % 4, 1 + i * 7 % 50, 1 + i % 9);
            Check.due("49: with briefs", court::isConsistent, true);
        }
        court.admit(3, true);
        Check.due("49: with an admission", court::isConsistent, true);
    }
}
