import java.io.IOException;
import java.lang.reflect.Method;
import java.lang.reflect.Modifier;
import java.nio.file.Files;
import java.nio.file.Path;
import java.util.Set;
import java.util.TreeSet;

/**
 * The rules of LANGUAGE.md, by the compiler's own tree of the source (Rules), and on what they let pass and what not.
 * Runs in the project's folder.
 */
public final class LanguageTest {
    private static final Path SOURCE = Path.of("src/main/java/PassedPenance.java");
    private static final Check CHECK = new Check();
    private static final String FACE = "public final class PassedPenance { public PassedPenance() { } ";

    private LanguageTest() {
    }

    public static void main(String[] args) throws IOException {
        CHECK.due("rules are broken by an empty class", new Rules(FACE + "}", Set.of()).broken().size(), 0);
        looksAtRulesOfClasses();
        looksAtRulesOfStatements();
        looksAtRulesOfLibrary();
        looksAtRulesOfSize();
        looksAtSource();
        CHECK.end();
    }

    private static void looksAtSource() throws IOException {
        Set<String> face = new TreeSet<>();
        for (Method m : PassedPenance.class.getDeclaredMethods()) {
            if (Modifier.isPublic(m.getModifiers())) {
                face.add(m.getName());
            }
        }
        for (String what : new Rules(Files.readString(SOURCE), face).broken()) {
            CHECK.due("rule " + what, 1, 0);
        }
    }

    /** A class with such members breaks this rule, and none else. */
    private static void breaks(int rule, String members) {
        Set<String> broken = new Rules(FACE + members + "}", Set.of("ask")).broken();
        Set<String> numbers = new TreeSet<>();
        for (String what : broken) {
            numbers.add(what.replaceAll(":.*", ""));
        }
        CHECK.due(members + " breaks rule " + rule + " alone, not " + broken,
                numbers.equals(Set.of(Integer.toString(rule))) ? 1 : 0, 1);
    }

    private static void keeps(String members) {
        Set<String> broken = new Rules(FACE + members + "}", Set.of("ask")).broken();
        CHECK.due(members + " breaks " + broken, broken.size(), 0);
    }

    private static void looksAtRulesOfClasses() {
        keeps("public int ask() { return 1; }");
        breaks(1, "public int other() { return 1; }");
        breaks(1, "int other() { return 1; }");
        breaks(1, "protected int other;");
        breaks(1, "private int ask() { return 1; }");
        breaks(1, "private static final class A { int ask() { return 1; } }");
        keeps("private static final class A { int other() { return 1; } }");
        breaks(2, "private final class A { }");
        breaks(2, "private void a() { class A { } }");
        breaks(2, "private interface A { int of(int i); } private void a() { A f = i -> i; }");
        breaks(2, "private interface A { int of(int i); } private void a() { A f = Math::abs; }");
        breaks(3, "private int[][][] a;");
        breaks(3, "private Object a;");
        breaks(3, "private Long a;");
        keeps("private long[][] a; private String b; private static final class A { } private A[] c;");
        breaks(3, "private static final class A { } private A[][] c;");
        breaks(5, "private static int a;");
        breaks(5, "private static final int[] A = new int[3];");
        breaks(5, "static { }");
        keeps("private static final int[] A = {1, 2}; private static final int B = 1 << 3; private static final long C = 5L * B;");
    }

    private static void looksAtRulesOfStatements() {
        breaks(6, "private void a() { throw null; }");
        breaks(6, "private void a() { try { return; } finally { } }");
        breaks(6, "private void a() { synchronized (this) { } }");
        breaks(6, "private void a() { assert true; }");
        breaks(6, "private boolean a(String b, String c) { return b == c; }");
        keeps("private boolean a(String b) { return b == null; }");
        breaks(6, "private static class A { } private static class B extends A { } private B a(A b) { return (B) b; }");
        breaks(7, "private int a(int b) { return 5 / b; }");
        breaks(7, "private int a(int b) { b %= b; return b; }");
        keeps("private int a(int b) { return b == 0 ? 0 : 5 / b; }");
        keeps("private int a(int b) { if (b > 0) { return 5 % b; } return 5 / 3; }");
        breaks(8, "private int a(int b) { return a(b); }");
        breaks(8, "private int a(int b) { return c(b); } private int c(int b) { return a(b); }");
        breaks(9, "private void a() { while (true) { } }");
        breaks(9, "private void a() { for (;;) { } }");
        breaks(9, "private void a(boolean b) { do { } while (b); }");
        keeps("private void a(int b) { for (int i = 0; i < b; i++) { } }");
        breaks(10, "private String a(String b) { return b + 1; }");
    }

    private static void looksAtRulesOfLibrary() {
        breaks(4, "private int a(String b) { return b.hashCode(); }");
        breaks(4, "private int a(int b) { return Math.addExact(b, b); }");
        breaks(4, "private void a() { System.out.println(); }");
        breaks(4, "private long a() { return System.nanoTime(); }");
        breaks(4, "private int a(int[] b) { return java.util.Arrays.hashCode(b); }");
        keeps("private int a(String b) { return b.length() + Math.max(1, b.charAt(0)) + Integer.bitCount(3); }");
        keeps("private void a(int[] b) { java.util.Arrays.fill(b, 0); System.arraycopy(b, 0, b.clone(), 0, b.length); }");
        breaks(4, "private int a() { return new java.util.Random(3).nextInt(); }");
    }

    private static void looksAtRulesOfSize() {
        keeps("private int a(int b, int c, int d, int e, int f, int g, int h) { return 1; }");
        breaks(11, "private int a(int b, int c, int d, int e, int f, int g, int h, int i) { return 1; }");
        keeps("private void a() {" + "\n".repeat(59) + "}");
        breaks(11, "private void a() {" + "\n".repeat(60) + "}");
        keeps(chain(8));
        breaks(11, chain(9));
        keeps(fields(20));
        breaks(11, fields(21));
        keeps(classes(11));
        breaks(11, classes(12));
        breaks(12, "private void a() { int[] b = {}; for (int i = 0; i < 3; i++) { b = new int[i]; } }");
        keeps("private void a() { int[] b = new int[3]; for (int i = 0; i < 3; i++) { b[i] = 1; } }");
        breaks(12, "private static final class A { A(PassedPenance p) { } } private static final class B { final C c; B() { "
                + "c = new C(this); } } private static final class C { C(B b) { } }");
    }

    /** Public ask() and below it so many that call one another. */
    private static String chain(int calls) {
        StringBuilder text = new StringBuilder("public int ask() { return a1(); }");
        for (int i = 1; i <= calls; i++) {
            text.append("private int a").append(i).append("() { return ");
            text.append(i == calls ? "1" : "a" + (i + 1) + "()").append("; }");
        }
        return text.toString();
    }

    private static String fields(int many) {
        StringBuilder text = new StringBuilder("private static final int A = 1;");
        for (int i = 0; i < many; i++) {
            text.append("private int b").append(i).append(';');
        }
        return text.toString();
    }

    private static String classes(int many) {
        StringBuilder text = new StringBuilder();
        for (int i = 0; i < many; i++) {
            text.append("private static final class C").append(i).append(" { }");
        }
        return text.toString();
    }
}
