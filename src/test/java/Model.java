import java.util.ArrayList;
import java.util.Comparator;
import java.util.HashSet;
import java.util.List;
import java.util.NoSuchElementException;
import java.util.Set;
import java.util.TreeSet;
import java.util.function.Predicate;
import java.util.regex.Matcher;
import java.util.regex.Pattern;

/**
 * The court once more, written from the document in the slowest and plainest way, with other means
 * than the class: texts by regular expressions, days by matching, groups by walking.
 */
final class Model {
    private static final Pattern TEXT = Pattern.compile(("(C)(;(C))*").replace("C",
            "lantern|file \\d \\d{1,2} \\d{1,2} \\d|cancel \\d{1,3}|say \\d\\d[+-]|drop \\d{1,2}"
            + "|admit \\d [gi]|free \\d|wait( \\d)?").replace("\\d", "[0-9]"));

    private static final class Lantern {
        int brightness = 9;
        Boolean admission = null;
        List<Integer> sentences = new ArrayList<>();

        Lantern copy() {
            Lantern copy = new Lantern();
            copy.brightness = brightness;
            copy.admission = admission;
            copy.sentences = new ArrayList<>(sentences);
            return copy;
        }

        int days() {
            return sentences.stream().mapToInt(i -> i).sum();
        }
    }

    record Brief(int id, int lantern, int lastDay, int fee, int severity) {
    }

    record Statement(int first, int second, boolean together) {
        boolean holds(int guilty) {
            return ((guilty & 1 << first) != 0 == ((guilty & 1 << second) != 0)) == together;
        }
    }

    private static final class State {
        int day = 0;
        int nextId = 0;
        List<Lantern> lanterns = new ArrayList<>();
        List<Brief> briefs = new ArrayList<>();
        List<Statement> statements = new ArrayList<>();
        int filed = 0;
        int back = 0;
        String hearings = "";
        int lapsed = 0;
        int served = 0;

        State copy() {
            State copy = new State();
            copy.day = day;
            copy.nextId = nextId;
            for (Lantern lantern : lanterns) {
                copy.lanterns.add(lantern.copy());
            }
            copy.briefs = new ArrayList<>(briefs);
            copy.statements = new ArrayList<>(statements);
            copy.filed = filed;
            copy.back = back;
            copy.hearings = hearings;
            copy.lapsed = lapsed;
            copy.served = served;
            return copy;
        }
    }

    private State state = new State();
    private State saved = null;
    private final List<State> history = new ArrayList<>();
    private String input = "";
    private String output = "";
    private int errorPosition = -1;
    private int failedCommand = -1;

    private void record(State earlier) {
        history.add(earlier);
        if (history.size() > 8) {
            history.remove(0);
        }
    }

    private Lantern lantern(int index) {
        if (index < 0 || index >= state.lanterns.size()) {
            throw new IndexOutOfBoundsException();
        }
        return state.lanterns.get(index);
    }

    private Statement statement(int index) {
        if (index < 0 || index >= state.statements.size()) {
            throw new IndexOutOfBoundsException();
        }
        return state.statements.get(index);
    }

    private Brief brief(int id) {
        return state.briefs.stream().filter(b -> b.id == id).findFirst().orElseThrow();
    }

    int addLantern() {
        if (state.lanterns.size() == 8) {
            throw new IllegalStateException();
        }
        record(state.copy());
        state.lanterns.add(new Lantern());
        return state.lanterns.size() - 1;
    }

    int file(int lantern, int days, int fee, int severity) {
        lantern(lantern);
        if (days < 1 || days > 12 || fee < 1 || fee > 50 || severity < 1 || severity > 9) {
            throw new IllegalArgumentException();
        }
        if (state.briefs.size() == 10) {
            throw new IllegalStateException();
        }
        record(state.copy());
        state.briefs.add(new Brief(state.nextId, lantern, state.day + days, fee, severity));
        state.filed += fee;
        return state.nextId++;
    }

    int withdraw(int id) {
        Brief brief = brief(id);
        record(state.copy());
        state.briefs.remove(brief);
        state.back += brief.fee / 2;
        return brief.fee / 2;
    }

    int makeStatement(int first, int second, boolean together) {
        lantern(first);
        lantern(second);
        if (first == second) {
            throw new IllegalArgumentException();
        }
        if (state.statements.size() == 12) {
            throw new IllegalStateException();
        }
        record(state.copy());
        state.statements.add(new Statement(first, second, together));
        return state.statements.size() - 1;
    }

    int dropStatement(int index) {
        statement(index);
        record(state.copy());
        state.statements.remove(index);
        return state.statements.size();
    }

    boolean admit(int index, boolean guilty) {
        Boolean earlier = lantern(index).admission;
        if (earlier != null && earlier == guilty) {
            throw new IllegalStateException();
        }
        record(state.copy());
        lantern(index).admission = guilty;
        return earlier != null;
    }

    boolean retract(int index) {
        Boolean earlier = lantern(index).admission;
        if (earlier == null) {
            throw new NoSuchElementException();
        }
        record(state.copy());
        lantern(index).admission = null;
        return earlier;
    }

    int passDays(int days) {
        if (days < 1 || days > 9) {
            throw new IllegalArgumentException();
        }
        record(state.copy());
        int heard = 0;
        for (int i = 0; i < days; i++) {
            heard += passDay();
        }
        return heard;
    }

    private int passDay() {
        List<Brief> plan = plan();
        state.day++;
        if (!plan.isEmpty()) {
            Brief first = plan.get(0);
            char verdict = verdict(first.lantern);
            state.briefs.remove(first);
            state.hearings += verdict;
            if (verdict == 'g' && lantern(first.lantern).sentences.size() < 8) {
                lantern(first.lantern).sentences.add(first.severity);
            } else if (verdict == 'm') {
                state.back += first.fee / 2;
            }
        }
        for (Brief brief : new ArrayList<>(state.briefs)) {
            if (brief.lastDay <= state.day) {
                state.briefs.remove(brief);
                state.lapsed++;
                state.back += brief.fee;
            }
        }
        for (Lantern lantern : state.lanterns) {
            if (lantern.sentences.isEmpty()) {
                lantern.brightness = Math.min(9, lantern.brightness + 1);
            } else {
                lantern.brightness = Math.max(0, lantern.brightness - 1);
                state.served++;
                int left = lantern.sentences.remove(0) - 1;
                if (left > 0) {
                    lantern.sentences.add(0, left);
                }
            }
        }
        return plan.isEmpty() ? 0 : 1;
    }

    int pardon(int index) {
        if (lantern(index).sentences.isEmpty()) {
            throw new NoSuchElementException();
        }
        record(state.copy());
        return lantern(index).sentences.remove(0);
    }

    int day() {
        return state.day;
    }

    int lanternCount() {
        return state.lanterns.size();
    }

    int brightness(int index) {
        return lantern(index).brightness;
    }

    boolean hasAdmitted(int index, boolean guilty) {
        return Boolean.valueOf(guilty).equals(lantern(index).admission);
    }

    int sentenceCount(int index) {
        return lantern(index).sentences.size();
    }

    int daysLeft(int index) {
        return lantern(index).sentences.stream().findFirst().orElseThrow();
    }

    int daysUntilFree(int index) {
        return lantern(index).days();
    }

    int briefCount() {
        return state.briefs.size();
    }

    int briefAt(int position) {
        if (position < 0 || position >= state.briefs.size()) {
            throw new NoSuchElementException();
        }
        return state.briefs.stream().map(Brief::id).sorted().toList().get(position);
    }

    int lanternOf(int id) {
        return brief(id).lantern;
    }

    int lastDay(int id) {
        return brief(id).lastDay;
    }

    int fee(int id) {
        return brief(id).fee;
    }

    int severity(int id) {
        return brief(id).severity;
    }

    /** Whether the briefs from this index on can get days of their own that are not yet taken. */
    private boolean canGetDays(List<Brief> briefs, int index, Set<Integer> takenDays) {
        if (index == briefs.size()) {
            return true;
        }
        for (int day = state.day + 1; day <= briefs.get(index).lastDay; day++) {
            // An earlier free day is never the better one: all later briefs end not earlier.
            if (takenDays.add(day)) {
                return canGetDays(briefs, index + 1, takenDays);
            }
        }
        return false;
    }

    private boolean isPossible(List<Brief> briefs) {
        List<Brief> sorted = new ArrayList<>(briefs);
        sorted.sort(Comparator.comparingInt(Brief::lastDay));
        return canGetDays(sorted, 0, new HashSet<>());
    }

    private List<Brief> plan() {
        List<Brief> visits = new ArrayList<>(state.briefs);
        visits.sort(Comparator.comparingInt((Brief b) -> -b.fee).thenComparing(Brief::lastDay).thenComparing(Brief::id));
        List<Brief> plan = new ArrayList<>();
        for (Brief brief : visits) {
            plan.add(brief);
            if (!isPossible(plan)) {
                plan.remove(brief);
            }
        }
        plan.sort(Comparator.comparingInt(Brief::lastDay).thenComparing(Brief::id));
        return plan;
    }

    boolean isInPlan(int id) {
        return plan().contains(brief(id));
    }

    int hearingDay(int id) {
        int place = plan().indexOf(brief(id));
        if (place < 0) {
            throw new NoSuchElementException();
        }
        return state.day + 1 + place;
    }

    int planFee() {
        return plan().stream().mapToInt(Brief::fee).sum();
    }

    int statementCount() {
        return state.statements.size();
    }

    int firstOf(int index) {
        return statement(index).first;
    }

    int secondOf(int index) {
        return statement(index).second;
    }

    boolean isTogether(int index) {
        return statement(index).together;
    }

    private Set<Integer> group(int index) {
        Set<Integer> group = new TreeSet<>(Set.of(index));
        boolean grows = true;
        while (grows) {
            grows = false;
            for (Statement s : state.statements) {
                if (group.contains(s.first) || group.contains(s.second)) {
                    grows |= group.add(s.first) | group.add(s.second);
                }
            }
        }
        return group;
    }

    int groupCount() {
        Set<Set<Integer>> groups = new HashSet<>();
        for (int i = 0; i < lanternCount(); i++) {
            groups.add(group(i));
        }
        return groups.size();
    }

    /** The explanations in which the statements about these lanterns are true, and admissions too. */
    private List<Integer> ways(Predicate<Integer> among, boolean withAdmissions) {
        List<Integer> ways = new ArrayList<>();
        for (int guilty = 0; guilty < 1 << lanternCount(); guilty++) {
            boolean fits = true;
            for (Statement s : state.statements) {
                fits &= !among.test(s.first) || s.holds(guilty);
            }
            for (int i = 0; i < lanternCount() && withAdmissions; i++) {
                Boolean admission = lantern(i).admission;
                fits &= !among.test(i) || admission == null || admission == ((guilty & 1 << i) != 0);
            }
            if (fits) {
                ways.add(guilty);
            }
        }
        return ways;
    }

    boolean isContradictory(int index) {
        return verdict(index) == 'm';
    }

    char verdict(int index) {
        lantern(index);
        List<Integer> ways = ways(group(index)::contains, true);
        long guilty = ways.stream().filter(way -> (way & 1 << index) != 0).count();
        if (ways.isEmpty()) {
            return 'm';
        }
        return guilty == ways.size() ? 'g' : guilty == 0 ? 'i' : 'u';
    }

    char relation(int first, int second) {
        lantern(first);
        lantern(second);
        if (!group(first).contains(second)) {
            return '?';
        }
        List<Integer> ways = ways(group(first)::contains, false);
        if (ways.isEmpty()) {
            throw new NoSuchElementException();
        }
        return new Statement(first, second, true).holds(ways.get(0)) ? '+' : '-';
    }

    int explanations() {
        return ways(i -> true, true).size();
    }

    int leastFalse() {
        int least = state.statements.size();
        for (int way : ways(i -> true, true, List.of())) {
            least = Math.min(least, (int) state.statements.stream().filter(s -> !s.holds(way)).count());
        }
        return least;
    }

    private List<Integer> ways(Predicate<Integer> among, boolean withAdmissions, List<Statement> instead) {
        List<Statement> all = state.statements;
        state.statements = instead;
        List<Integer> ways = ways(among, withAdmissions);
        state.statements = all;
        return ways;
    }

    int lanternByBrightness(int rank) {
        if (rank < 0 || rank >= lanternCount()) {
            throw new NoSuchElementException();
        }
        List<Integer> order = new ArrayList<>();
        for (int i = 0; i < lanternCount(); i++) {
            order.add(i);
        }
        order.sort(Comparator.comparingInt(this::brightness).thenComparing(i -> -daysUntilFree(i)).thenComparing(i -> i));
        return order.get(rank);
    }

    int courtCoins() {
        return state.filed - state.back;
    }

    int paidBack() {
        return state.back;
    }

    int hearingCount(char verdict) {
        if ("gium".indexOf(verdict) < 0) {
            throw new IllegalArgumentException();
        }
        return (int) state.hearings.chars().filter(c -> c == verdict).count();
    }

    int lapsedCount() {
        return state.lapsed;
    }

    int servedDays() {
        return state.served;
    }

    double meanBrightness() {
        if (lanternCount() == 0) {
            throw new ArithmeticException();
        }
        return (double) state.lanterns.stream().mapToInt(l -> l.brightness).sum() / lanternCount();
    }

    float guiltyShare() {
        if (state.hearings.isEmpty()) {
            throw new ArithmeticException();
        }
        return (float) hearingCount('g') / state.hearings.length();
    }

    int feed(char character) {
        if (input.length() == 60) {
            throw new IllegalStateException();
        }
        input += character;
        return input.length();
    }

    int runCommands() {
        String text = input;
        input = "";
        if (!TEXT.matcher(text).matches()) {
            errorPosition = errorIn(text);
            throw new IllegalArgumentException();
        }
        State earlier = state.copy();
        List<State> earlierHistory = new ArrayList<>(history);
        String[] commands = text.split(";");
        for (int i = 0; i < commands.length; i++) {
            try {
                carryOut(commands[i].split(" "));
            } catch (RuntimeException e) {
                failedCommand = i;
                state = earlier;
                replaceHistory(earlierHistory);
                throw new UnsupportedOperationException();
            }
        }
        replaceHistory(earlierHistory);
        record(earlier);
        return commands.length;
    }

    private void replaceHistory(List<State> states) {
        history.clear();
        history.addAll(states);
    }

    /** The length of the longest start of the text that a well-formed text can have. */
    private static int errorIn(String text) {
        int length = 0;
        while (length < text.length()) {
            Matcher matcher = TEXT.matcher(text.substring(0, length + 1));
            if (!matcher.matches() && !matcher.hitEnd()) {
                return length;
            }
            length++;
        }
        return length;
    }

    private void carryOut(String[] words) {
        int number = words.length > 1 ? Integer.parseInt(words[1].replaceAll("[+-]", "")) : 1;
        switch (words[0]) {
            case "lantern" -> addLantern();
            case "file" -> file(number, Integer.parseInt(words[2]), Integer.parseInt(words[3]), Integer.parseInt(words[4]));
            case "cancel" -> withdraw(number);
            case "say" -> makeStatement(number / 10, number % 10, words[1].endsWith("+"));
            case "drop" -> dropStatement(number);
            case "admit" -> admit(number, words[2].equals("g"));
            case "free" -> pardon(number);
            default -> passDays(number);
        }
    }

    int errorPosition() {
        if (errorPosition < 0) {
            throw new NoSuchElementException();
        }
        return errorPosition;
    }

    int failedCommand() {
        if (failedCommand < 0) {
            throw new NoSuchElementException();
        }
        return failedCommand;
    }

    int writeLantern(int index) {
        Lantern lantern = lantern(index);
        output = index + "*".repeat(lantern.brightness);
        output += lantern.admission == null ? "" : lantern.admission ? "g" : "i";
        for (int days : lantern.sentences) {
            output += "/" + days;
        }
        return output.length();
    }

    int writePlan() {
        output = String.join(" ", plan().stream().map(brief -> String.valueOf(brief.id)).toList());
        return output.length();
    }

    char outputChar(int index) {
        if (index < 0 || index >= output.length()) {
            throw new IndexOutOfBoundsException();
        }
        return output.charAt(index);
    }

    int undoCount() {
        return history.size();
    }

    int undo() {
        if (history.isEmpty()) {
            throw new IllegalStateException();
        }
        state = history.remove(history.size() - 1);
        return history.size();
    }

    int save() {
        saved = state.copy();
        return lanternCount();
    }

    int restore() {
        if (saved == null) {
            throw new IllegalStateException();
        }
        state = saved.copy();
        history.clear();
        return lanternCount();
    }
}
