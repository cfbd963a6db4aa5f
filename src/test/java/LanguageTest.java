import java.nio.charset.StandardCharsets;
import java.nio.file.Files;
import java.nio.file.Path;
import java.util.List;

/** The rules of LANGUAGE.md that can be read off the source; and that Rules does notice when one is broken. */
public final class LanguageTest {
    private static final String MANY_LINES = "int p() { int a = 0;\n" + "a++;\n".repeat(60) + "return a; }";
    private static final String[][] BREAKING = {
        {"rule 2", "class Inner { }"},
        {"rule 2", "int p() { class Local { } return 0; }"},
        {"rule 2", "static abstract class A { } final A a = new A() { };"},
        {"rule 2", "int p() { Runnable r = () -> { }; return 0; }"},
        {"rule 2", "int p() { Runnable r = this::q; return 0; } void q() { }"},
        {"rule 3", "final int[][][] cube = new int[1][1][1];"},
        {"rule 3", "static final class A { } final A[][] rows = new A[1][1];"},
        {"rule 3", "Object o = null;"},
        {"rule 3", "int p() { return (int) 0.5; }"},
        {"rule 3", "Object p() { return null; }"},
        {"rule 4", "int p() { return Math.addExact(1, 2); }"},
        {"rule 4", "long p() { return System.nanoTime(); }"},
        {"rule 4", "int p(String s) { return s.hashCode(); }"},
        {"rule 4", "final int a = new java.util.Random().nextInt();"},
        {"rule 4", "final String s = \"\u00e9\";"},
        {"rule 5", "static int a = 0;"},
        {"rule 5", "static final int[] A = new int[3];"},
        {"rule 5", "static final int[] A = {1}; void p() { A[0] = 2; }"},
        {"rule 5", "static final int[] A = {1}; void p() { A[0]++; }"},
        {"rule 5", "static final int[] A = {1}; void p() { A[0] += 2; }"},
        {"rule 5", "static { }"},
        {"rule 6", "int p() { throw new IllegalStateException(); }"},
        {"rule 6", "int p() { try { return 1; } finally { } }"},
        {"rule 6", "int p() { assert true; return 1; }"},
        {"rule 6", "int p() { synchronized (this) { return 1; } }"},
        {"rule 6", "int p() throws RuntimeException { return 1; }"},
        {"rule 6", "boolean p(String s) { return s == \"a\"; }"},
        {"rule 8", "int p() { return p(); }"},
        {"rule 8", "int p() { return q(); } int q() { return p(); }"},
        {"rule 9", "int p() { for (;;) { } }"},
        {"rule 9", "int p() { while (true) { } }"},
        {"rule 10", "String p(String s) { return s + 1; }"},
        {"rule 10", "String p(String s) { s += 1; return s; }"},
        {"rule 11", MANY_LINES},
        {"rule 11", "int p(int a, int b, int c, int d, int e, int f, int g, int h) { return 0; }"},
        {"rule 11", "int a, b, c, d, e, f, g, h, i, j, k, l, m, n, o, q, r, s, t, u, v;"},
        {"rule 11", "int a() { return b(); } int b() { return c(); } int c() { return d(); } int d() { return e(); } "
            + "int e() { return f(); } int f() { return g(); } int g() { return h(); } int h() { return Math.abs(1); }"},
        {"rule 11", "static class A { } static class B { } static class C { } static class D { } static class E { } "
            + "static class F { } static class G { } static class H { } static class I { } static class J { } "
            + "static class K { } static class L { }"},
        {"rule 12", "int[] p() { return new int[1]; }"},
        {"rule 12", "static class A { } A p() { return new A(); }"},
        {"rule 12", "static class A { A self; A() { self = this; } }"},
        {"rule 12", "static class A { A() { p(); } void p() { } }"},
    };

    private LanguageTest() {
    }

    public static void main(String[] args) throws Exception {
        for (String[] bad : BREAKING) {
            List<String> broken = Rules.brokenBy("public final class TimeFlood { " + bad[1] + " }");
            boolean noticed = broken.stream().anyMatch(b -> b.startsWith(bad[0] + ":"));
            Due.due(bad[0] + " noticed in: " + bad[1], noticed ? 1 : 0, 1);
        }
        // What is just allowed, so that no rule is held against everything.
        Due.due("nothing noticed", Rules.brokenBy("public final class TimeFlood { static final int[] A = {1}; "
                + "final int[][] b = new int[2][2]; static final class C { final long d = 1L; } final C c = new C(); "
                + "public int p(long x) { for (int i = 0; i < 2; i++) { b[i][0] = A[0]; } "
                + "return (int) Math.floorMod(x + c.d, 7L); } }").size(), 0);
        Path source = Path.of(args.length > 0 ? args[0] : "src/main/java/TimeFlood.java");
        for (String broken : Rules.brokenBy(Files.readString(source, StandardCharsets.US_ASCII))) {
            Due.due(broken, 1, 0);
        }
        Due.end();
    }
}
