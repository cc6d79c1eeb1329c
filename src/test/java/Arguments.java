import java.util.NoSuchElementException;
import java.util.function.BiFunction;

/** The sentences about arguments that many promises have in common, at both ends of what is taken. */
final class Arguments {
    private Arguments() {
    }

    /** A call with a lantern, which answers if the lantern serves a sentence and has admitted its guilt. */
    static void lantern(int promise, BiFunction<LanternCourt, Integer, Object> call) {
        lantern(promise, "Throws `IndexOutOfBoundsException` if there is no such lantern", call);
        Sentences.of(promise, "- `lantern`: index of a lantern", () -> {
            takesLantern(call, 1, 0);
            takesLantern(call, 8, 0);
            takesLantern(call, 8, 7);
        });
    }

    static void lantern(int promise, String sentence, BiFunction<LanternCourt, Integer, Object> call) {
        Sentences.of(promise, sentence, () -> {
            for (int lanterns : new int[] {0, 1, 8}) {
                LanternCourt court = Courts.serving(lanterns);
                for (int i : new int[] {-1, lanterns, lanterns + 1, 8, Integer.MIN_VALUE, Integer.MAX_VALUE}) {
                    Check.refuses("lantern " + i + " of " + lanterns, court, () -> call.apply(court, i), IndexOutOfBoundsException.class);
                }
            }
        });
    }

    private static void takesLantern(BiFunction<LanternCourt, Integer, Object> call, int lanterns, int lantern) {
        LanternCourt court = Courts.serving(lanterns);
        takes("lantern " + lantern + " of " + lanterns, Check.answer(() -> call.apply(court, lantern)));
    }

    static void takes(String what, String answer) {
        Check.same(what + " is taken: " + answer, String.valueOf(answer.startsWith("throws")), "false");
    }

    /** A call with a brief's id, which answers if the brief is in the plan. */
    static void brief(int promise, BiFunction<LanternCourt, Integer, Object> call) {
        Sentences.of(promise, "- `brief`: id of a brief", () -> {
            for (int id : new int[] {3, 4}) {
                LanternCourt court = Courts.withBriefs();
                takes("brief " + id, Check.answer(() -> call.apply(court, id)));
            }
        });
        String orNot = promise == 25 ? ", or it is not in the plan" : "";
        Sentences.of(promise, "Throws `NoSuchElementException` if no brief with this id waits" + orNot, () -> refusesBriefs(call));
    }

    private static void refusesBriefs(BiFunction<LanternCourt, Integer, Object> call) {
        LanternCourt court = Courts.withBriefs();
        String[] fates = {"withdrawn", "heard", "lapsed"};
        for (int i = 0; i < fates.length; i++) {
            int id = i;
            Check.refuses("a brief that was " + fates[i], court, () -> call.apply(court, id), NoSuchElementException.class);
        }
        for (int id : new int[] {-1, 5, Integer.MIN_VALUE, Integer.MAX_VALUE}) {
            Check.refuses("brief " + id, court, () -> call.apply(court, id), NoSuchElementException.class);
        }
        LanternCourt empty = new LanternCourt();
        for (int id : new int[] {-1, 0}) {
            Check.refuses("brief " + id + " of none", empty, () -> call.apply(empty, id), NoSuchElementException.class);
        }
        LanternCourt full = Courts.withEqualBriefs(10, 12, 1);
        Check.refuses("the next brief", full, () -> call.apply(full, 10), NoSuchElementException.class);
    }

    /** A call with a statement's index. */
    static void statement(int promise, BiFunction<LanternCourt, Integer, Object> call) {
        Sentences.of(promise, "- `statement`: index of a statement", () -> {
            for (int i : new int[] {0, 11}) {
                LanternCourt court = Courts.withStatements(12);
                takes("statement " + i, Check.answer(() -> call.apply(court, i)));
            }
        });
        Sentences.of(promise, "Throws `IndexOutOfBoundsException` if there is no such statement", () -> {
            for (int statements : new int[] {0, 1, 12}) {
                LanternCourt court = Courts.withStatements(statements);
                for (int i : new int[] {-1, statements, statements + 1, 12, Integer.MIN_VALUE, Integer.MAX_VALUE}) {
                    Check.refuses("statement " + i + " of " + statements, court, () -> call.apply(court, i), IndexOutOfBoundsException.class);
                }
            }
            LanternCourt court = Courts.withStatements(12);
            court.dropStatement(0);
            Check.refuses("the index that is no more", court, () -> call.apply(court, 11), IndexOutOfBoundsException.class);
        });
    }
}
