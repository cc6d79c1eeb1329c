import java.util.function.Supplier;

/** Compares answers with those that are due, and counts the wrong ones. */
final class Check {
    private static int wrong = 0;
    private static int checks = 0;
    private static String topic = "";

    private Check() {
    }

    /** The answer as a text; a call that throws answers with the name of its exception. */
    static String answer(Supplier<Object> call) {
        try {
            return String.valueOf(call.get());
        } catch (RuntimeException e) {
            return "throws." + e.getClass().getSimpleName();
        }
    }

    static void due(String what, Supplier<Object> call, Object due) {
        same(what, answer(call), String.valueOf(due));
    }

    static void fails(String what, Supplier<Object> call, Class<? extends RuntimeException> due) {
        same(what, answer(call), "throws." + due.getSimpleName());
    }

    static void same(String what, String got, String due) {
        checks++;
        if (!got.equals(due)) {
            wrong++;
            System.out.println(topic + what + " answered " + got + ", due is " + due);
        }
    }

    static int count() {
        return checks;
    }

    /** What the following checks are about; it is told with each wrong answer. */
    static void about(String text) {
        topic = text;
    }

    /** A call that throws and leaves the state as it was. */
    static void refuses(String what, LanternCourt court, Supplier<Object> call, Class<? extends RuntimeException> due) {
        String before = Snapshot.of(court);
        fails(what, call, due);
        sameLines("the state after " + what, Snapshot.of(court), before);
    }

    /** As same, but tells only the first lines that differ. */
    static void sameLines(String what, String got, String due) {
        String[] gotLines = got.split("\n");
        String[] dueLines = due.split("\n");
        int line = 0;
        while (line < Math.min(gotLines.length, dueLines.length) - 1 && gotLines[line].equals(dueLines[line])) {
            line++;
        }
        same(what, got.equals(due) ? "" : gotLines[line], got.equals(due) ? "" : dueLines[line]);
    }

    /** Feeds a text without carrying it out. */
    static void feed(LanternCourt court, String text) {
        for (int i = 0; i < text.length(); i++) {
            court.feed(text.charAt(i));
        }
    }

    static String run(LanternCourt court, String text) {
        feed(court, text);
        return answer(court::runCommands);
    }

    static String output(LanternCourt court, int length) {
        StringBuilder text = new StringBuilder();
        for (int i = 0; i < length; i++) {
            text.append(court.outputChar(i));
        }
        return text.toString();
    }

    static String lantern(LanternCourt court, int lantern) {
        return output(court, court.writeLantern(lantern));
    }

    static String plan(LanternCourt court) {
        return output(court, court.writePlan());
    }

    static LanternCourt courtWith(int lanterns) {
        LanternCourt court = new LanternCourt();
        for (int i = 0; i < lanterns; i++) {
            court.addLantern();
        }
        return court;
    }

    /** Sentences a lantern, which must have admitted its guilt, while a day passes. */
    static void sentence(LanternCourt court, int lantern, int severity) {
        court.file(lantern, 1, 50, severity);
        court.passDays(1);
    }

    static void end() {
        System.out.println(checks + " checks, " + wrong + " wrong");
        if (wrong != 0) {
            System.exit(1);
        }
    }
}
