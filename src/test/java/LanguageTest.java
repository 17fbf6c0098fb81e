import java.nio.file.Files;
import java.nio.file.Path;
import java.util.List;

/** The program keeps to LANGUAGE.md as far as a look at its words can tell, and Language sees what does not. */
public final class LanguageTest {
    /** Members of a class that break a rule, behind the rule's number. */
    private static final String[][] BREAKS = {
        {"1", "public static class Seen { }"},
        {"1", "private class Inner { }"},
        {"2", "private int f() { class Local { } return 0; }"},
        {"2", "private interface I { int of(int x); } private int f() { I i = x -> x; return i.of(1); }"},
        {"2", "private interface I { int of(int x); } private int f() { I i = Math::abs; return i.of(1); }"},
        {"3", "private Object o;"},
        {"3", "private String[][] texts;"},
        {"3", "private int[][][] cube;"},
        {"3", "private java.util.Map<Integer, Integer> map;"},
        {"3", "private Long number() { return 1L; }"},
        {"3", "private double f(double x) { return x % 2.0; }"},
        {"4", "private int f(String s) { return s.trim().length(); }"},
        {"4", "private int f(int x) { return Math.addExact(x, 1); }"},
        {"4", "private double f(double x) { return Math.abs(x); }"},
        {"4", "private int f(String s) { return Integer.parseInt(s); }"},
        {"4", "private int f() { return Integer.MAX_VALUE; }"},
        {"4", "private long f() { return System.nanoTime(); }"},
        {"4", "private void f() { System.out.println(1); }"},
        {"4", "private void f(int[] a) { java.util.Arrays.sort(a); }"},
        {"4", "private boolean f() { return new java.util.HashMap<Integer, Integer>() == null; }"},
        {"4", "private String f() { return \"\u00e9\"; }"},
        {"5", "private static int kept;"},
        {"5", "private static final double HALF = 0.5;"},
        {"5", "private static final int[] ROOM = new int[5];"},
        {"5", "private static final int ONE; static { ONE = 1; }"},
        {"6", "private void f() { throw new NullPointerException(); }"},
        {"6", "private void f(String s) { throw new IllegalStateException(s); }"},
        {"6", "RepairStudio() { throw new IllegalStateException(); }"},
        {"6", "private int f() { try { return g(); } catch (NullPointerException e) { return 0; } } private int g() { return 1; }"},
        {"6", "private int f() { try { return g(); } finally { g(); } } private int g() { return 1; }"},
        {"6", "private int f(int x) { try { if (x > 0) throw new IllegalStateException(); return 1; } catch (IllegalStateException e) { return 0; } }"},
        {"6", "private void f() { synchronized (this) { } }"},
        {"6", "private void f(int x) { assert x > 0; }"},
        {"6", "public String toString() { return \"\"; }"},
        {"6", "private boolean f(String a, String b) { return a == b; }"},
        {"10", "private String f(int x) { return \"x\" + x; }"},
        {"10", "private void f(int x) { String s = \"x\"; s += x; }"},
        {"11", "private int f(int a, int b, int c, int d, int e, int g, int h, int i) { return 0; }"},
        {"11", "private void f() { " + "\n".repeat(60) + " }"},
    };

    /** Members that keep to the rules. */
    private static final String[] GOOD = {
        "private static final int ONE = 1; private static final int[] SOME = {1, 2}; private static final String WORD = \"w\";",
        "private interface I { int of(int x); } private static final class A implements I { public int of(int x) { return x; } }",
        "private int f(String s) { return s.length() + s.charAt(0) + s.indexOf('x'); }",
        "private String f(int x) { StringBuilder b = new StringBuilder(); b.append('x').append(x).append(\"y\"); return b.toString(); }",
        "private int f(int[] a) { int[] b = a.clone(); System.arraycopy(a, 0, b, 0, 1); return Math.max(b.length, Integer.bitCount(3)); }",
        "private double f(int x) { return (double) x / 2.0; }",
        "private int f() { try { return g(1); } catch (IllegalStateException e) { return 0; } }"
                + " private int g(int x) { if (x > 0) { throw new IllegalStateException(\"no\"); } return x; }",
        "private int f() { java.util.ArrayList<Integer> list = new java.util.ArrayList<Integer>(); list.add(1); return list.get(0) + list.size(); }",
    };

    public static void main(String[] args) throws Exception {
        Path source = Path.of(args.length > 0 ? args[0] : "src/main/java/RepairStudio.java");
        Check.same("the program", Language.complaints(Files.readString(source)), List.of());
        for (String[] broken : BREAKS) {
            List<String> complaints = Language.complaints("public final class RepairStudio { " + broken[1] + " }");
            boolean told = complaints.stream().anyMatch(line -> line.startsWith("rule " + broken[0] + ","));
            Check.same("rule " + broken[0] + " is broken by " + broken[1] + " " + complaints, told, true);
        }
        for (String good : GOOD) Check.same(good, Language.complaints("public final class RepairStudio { " + good + " }"), List.of());
        Check.same("a package", Language.complaints("package p; public final class RepairStudio { }").size(), 1);
        Check.same("an import", Language.complaints("import java.util.Map; public final class RepairStudio { }").size(), 1);
        Check.same("a second class", Language.complaints("public final class RepairStudio { } class Other { }").isEmpty(), false);
        Check.same("not final", Language.complaints("public class RepairStudio { }").size(), 1);
        Check.report("LanguageTest");
    }
}
