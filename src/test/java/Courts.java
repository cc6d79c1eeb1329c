/** Courts with a past, on which the edges of arguments can be tried. */
final class Courts {
    private Courts() {
    }

    /** Every lantern has admitted its guilt and serves a sentence. */
    static LanternCourt serving(int lanterns) {
        LanternCourt court = Check.courtWith(lanterns);
        for (int i = 0; i < lanterns; i++) {
            court.admit(i, true);
            Check.sentence(court, i, 9);
        }
        return court;
    }

    /** Brief 0 has been withdrawn, 1 heard and 2 lapsed; 3 and 4 wait and are in the plan; 5 will be next. */
    static LanternCourt withBriefs() {
        LanternCourt court = Check.courtWith(2);
        court.file(0, 1, 50, 1);
        court.file(1, 1, 9, 1);
        court.file(0, 1, 8, 1);
        court.file(1, 12, 7, 2);
        court.file(0, 12, 6, 3);
        court.withdraw(0);
        court.passDays(1);
        return court;
    }

    /** Lanterns 0 and 1, and so many statements that they are together. */
    static LanternCourt withStatements(int statements) {
        LanternCourt court = Check.courtWith(2);
        for (int i = 0; i < statements; i++) {
            court.makeStatement(0, 1, true);
        }
        return court;
    }

    /** On day 0; each brief has the same last day and fee. */
    static LanternCourt withEqualBriefs(int briefs, int days, int fee) {
        LanternCourt court = Check.courtWith(1);
        for (int i = 0; i < briefs; i++) {
            court.file(0, days, fee, 1);
        }
        return court;
    }

    /** Lantern 0 has admitted its guilt and was found guilty on each of so many days. */
    static LanternCourt foundGuilty(int days, int severity) {
        LanternCourt court = Check.courtWith(1);
        court.admit(0, true);
        for (int i = 0; i < days; i++) {
            Check.sentence(court, 0, severity);
        }
        return court;
    }
}
