import java.io.IOException;
import java.nio.file.Files;
import java.nio.file.Path;
import java.util.Set;

/** The class keeps to ../shared/LANGUAGE.md, and each of the rules that are looked at finds what breaks it. */
final class LanguageTest {
    public static void main(String[] args) throws IOException {
        Set<String> faults = Rules.faultsOf(Files.readString(Path.of("src/main/java/LanternCourt.java")));
        Check.same("faults of the class", String.join(" | ", faults), "");
        theFace();
        typesAndLibrary();
        exceptions();
        sizes();
        Check.end();
    }

    private static void theFace() throws IOException {
        finds(1, "public static class Inside { }");
        finds(1, "class Inside { }");
        finds(2, "static Runnable make() { return () -> { }; }");
        finds(2, "static Runnable make() { return LanternCourt::new; }");
        finds(5, "private static int count;");
        finds(5, "private static final int[] ROW = new int[3];");
        finds(5, "static { }");
        finds(0, "private static final int[] ROW = {1, 2}; private enum Kind { ONE } private static final Kind[] KINDS = Kind.values();");
    }

    private static void typesAndLibrary() throws IOException {
        finds(3, "private int[][][] cube;");
        finds(3, "private boolean[][] table;");
        finds(3, "private Object thing;");
        finds(3, "private String[] words;");
        finds(3, "double rest(double a) { return a % 2; }");
        finds(3, "double more(double a) { return Math.max(a, 2); }");
        finds(4, "private long now() { return System.nanoTime(); }");
        finds(4, "private int sum(int a) { return Math.addExact(a, 1); }");
        finds(4, "private String text(int a) { return String.valueOf(a); }");
        finds(4, "private void copy(boolean[] a) { System.arraycopy(a, 0, a, 1, 1); }");
        finds(4, "private int draw() { return new java.util.Random().nextInt(); }");
        finds(4, "private String sign() { return \"\\u00e9\"; }");
        finds(10, "private String text(int a) { return \"a\" + a; }");
        finds(10, "private boolean either(boolean a) { a |= true; return a; }");
        finds(0, "private double share(int a) { return a == 0 ? 0 : (double) Math.max(a, 1) / (double) a; }");
    }

    private static void exceptions() throws IOException {
        finds(6, "private void stop() { throw new ClassCastException(); }");
        finds(6, "private void stop(String why) { throw new IllegalStateException(why); }");
        finds(6, "LanternCourt() { throw new IllegalStateException(); }");
        finds(6, "private void stop() { try { throw new IllegalStateException(); } catch (IllegalStateException e) { } }");
        finds(6, "private void stop() { try { toString(); } finally { } }");
        finds(6, "private void stop() { try { toString(); } catch (NullPointerException e) { } }");
        finds(6, "private boolean same(String a, String b) { return a == b; }");
        finds(6, "private void check(int a) { assert a > 0; }");
        finds(6, "private synchronized void one() { synchronized (this) { } }");
        finds(6, "public String toString() { return \"\"; }");
        finds(0, "private void stop() { throw new IllegalStateException(\"stop\"); }");
    }

    private static void sizes() throws IOException {
        finds(8, "private int down(int a) { return a == 0 ? 0 : down(a - 1); }");
        finds(9, "private void turn() { while (true) { } }");
        finds(9, "private void turn() { for (;;) { } }");
        finds(11, "private void take(int a, int b, int c, int d, int e, int f, int g, int h) { }");
        finds(11, "private int longOne() {" + "\n".repeat(60) + "return 0; }");
        finds(11, "private int " + numbered("a#", 21, ", ") + ";");
        finds(11, numbered("static class Inside# { }", 12, " "));
        finds(11, numbered("private void call#() { call+(); }", 8, " ") + " private void call8() { }");
        finds(0, "private int shortOne() {" + "\n".repeat(58) + "return 0; }");
        finds(0, "private int " + numbered("a#", 20, ", ") + ";");
        finds(0, numbered("static class Inside# { }", 11, " "));
        finds(0, numbered("private void call#() { call+(); }", 7, " ") + " private void call7() { }");
    }

    /** The part as often as told, each time with the next number in place of #, and the one behind it in place of +. */
    private static String numbered(String part, int times, String between) {
        StringBuilder text = new StringBuilder();
        for (int i = 0; i < times; i++) {
            text.append(i == 0 ? "" : between);
            text.append(part.replace("#", String.valueOf(i)).replace("+", String.valueOf(i + 1)));
        }
        return text.toString();
    }

    /** A class with these members breaks this rule, or, with 0, none. */
    private static void finds(int rule, String members) throws IOException {
        Set<String> faults = Rules.faultsOf("public final class LanternCourt { " + members + " }");
        boolean isFound = rule == 0 ? faults.isEmpty() : faults.stream().anyMatch(fault -> fault.startsWith("rule " + rule + ":"));
        Check.same(members.strip() + " breaks " + faults + ", rule " + rule + " found", String.valueOf(isFound), "true");
    }
}
