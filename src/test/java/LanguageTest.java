import java.nio.file.Files;
import java.nio.file.Path;
import java.util.List;

/** The program keeps to LANGUAGE.md, as far as LanguageRules can tell; it finds what it should. */
public final class LanguageTest {
    private static final Checks CHECKS = new Checks();

    public static void main(String[] args) throws Exception {
        String program = Files.readString(Path.of("src/main/java/NewspaperMakeup.java"));
        for (String fault : LanguageRules.findIn(program)) {
            CHECKS.isTrue(fault, false);
        }
        isFine("int f(int a) { int b = 0; for (int i = 0; i < a; i++) { b += -i; } return b; }");
        isFine("float f(int a) { return (float) a / 2f; } void g() { throw new RuntimeException(); }");
        isFine("private static final int[] ROW = {1}; private int f() { return -ROW[0]; }");
        isFine("void g(int a) { for (int i = 0; i < a; i++) { throw new RuntimeException(); } }");
        isFine(classes(11));
        isFine(fields(20));
        isFine(chain(8));
        wrong(11, chain(9));
        everyRule();
        CHECKS.end();
    }

    /** So many methods, each of which calls the next. */
    private static String chain(int methods) {
        StringBuilder text = new StringBuilder();
        for (int at = 1; at < methods; at++) {
            text.append("private void m" + at + "() { m" + (at + 1) + "(); } ");
        }
        return text.append("private void m" + methods + "() { }").toString();
    }

    private static void everyRule() {
        wrong(1, "int seen;");
        wrong(1, "private class Inner { }");
        wrong(1, "public static class Seen { }");
        wrong(2, "private Runnable f() { return () -> { }; }");
        wrong(2, "private Runnable f() { return this::g; } private void g() { }");
        wrong(3, "private Object o;");
        wrong(3, "private int[][][] cube;");
        wrong(3, "private String[][] texts;");
        wrong(3, "private void f() { java.util.Map<String, String> m = null; }");
        wrong(3, "private float f(float a) { return a % 2f; }");
        wrong(3, "private float f(float a) { return Math.max(a, 2f); }");
        wrong(4, "private int f(int a) { return Math.addExact(a, 1); }");
        wrong(4, "private void f() { System.gc(); }");
        wrong(4, "private long f() { return System.nanoTime(); }");
        wrong(4, "private StringBuilder f() { return new StringBuilder(new String()); }");
        wrong(5, "private static int state;");
        wrong(5, "private static final int[] ROW = new int[3];");
        wrong(5, "private static final int[] ROW = {1}; private void f() { ROW[0] = 2; }");
        wrong(5, "private static final int[] ROW = {1}; private void f() { ROW[0]++; }");
        wrong(5, "private static final int[] ROW = {1}; private void f() { ROW[0] += 2; }");
        wrong(5, "static { }");
        wrong(6, "private void f() { throw new ClassCastException(); }");
        wrong(6, "private void f(RuntimeException e) { throw e; }");
        wrong(6, "private void f(String s) { throw new RuntimeException(s); }");
        wrong(6, "X() { throw new RuntimeException(); }");
        wrong(6, "private void f() { try { f(); } finally { f(); } }");
        wrong(6, "public String toString() { return null; }");
        wrong(6, "private boolean f(String a, String b) { return a == b; }");
        wrong(6, "private void f(int a) { assert a > 0; }");
        wrong(6, "private synchronized void f() { synchronized (this) { } }");
        wrong(8, "private void f() { g(); } private void g() { f(); }");
        wrong(9, "private void f() { while (true) { } }");
        wrong(9, "private void f() { for (;;) { } }");
        wrong(10, "private String f(String a) { return a + 1; }");
        wrong(10, "private void f(String a) { a += 1; }");
        wrong(11, "private void f(int a, int b, int c, int d, int e, int f, int g, int h) { }");
        wrong(11, "private void f() { " + "\n".repeat(60) + " }");
        wrong(11, classes(12));
        wrong(11, fields(21));
        wrong(12, "private void f() { for (int i = 0; i < 2; i++) { int[] a = new int[2]; } }");
        wrong(12, "private static final class A { A(X x) { } } X() { A a = new A(this); }");
    }

    private static String classes(int number) {
        StringBuilder text = new StringBuilder();
        for (int at = 0; at < number; at++) {
            text.append("private static final class C" + at + " { } ");
        }
        return text.toString();
    }

    private static String fields(int number) {
        StringBuilder text = new StringBuilder();
        for (int at = 0; at < number; at++) {
            text.append("private int f" + at + "; ");
        }
        return text.toString();
    }

    private static List<String> findIn(String members) {
        try {
            return LanguageRules.findIn("public final class X { " + members + " }");
        } catch (Exception e) {
            throw new IllegalStateException(e);
        }
    }

    private static void isFine(String members) {
        List<String> found = findIn(members);
        CHECKS.isTrue("nothing is wrong with '" + members + "': " + found, found.isEmpty());
    }

    private static void wrong(int rule, String members) {
        List<String> found = findIn(members);
        boolean holds = found.stream().anyMatch(f -> f.startsWith("rule " + rule + ","));
        CHECKS.isTrue("rule " + rule + " forbids '" + members + "': " + found, holds);
    }
}
