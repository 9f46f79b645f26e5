import java.nio.file.Files;
import java.nio.file.Path;
import java.util.List;

/** The program keeps to the rules of LANGUAGE.md, as far as its text shows it; samples show that a broken rule is found. */
public final class LanguageTest {
  // The part of the good sample that a bad sample replaces.
  private static final String CLASS = "public final class P {";
  private static final String FIELD = "private int f;";
  private static final String BODY = "a[0] = q(x);";
  private static final String GOOD = CLASS + "\n  public static final int C = 3;\n  " + FIELD
      + "\n  private final int[] a = new int[C];\n  public P(int x) {\n    f = x;\n  }\n  public int p(int x) {\n    " + BODY
      + "\n    for (int i = 0; i < 3; i++) {\n      f += i;\n    }\n    return f + this.f + a.length;\n  }\n"
      + "  private int q(int x) {\n    return x > 0 ? x : -x;\n  }\n}\n";

  public static void main(String[] args) throws Exception {
    String program = Files.readString(Path.of("src/main/java/TinyBasicVm.java"));
    Check.due("faults of the program", LanguageRules.faultsOf("TinyBasicVm", program).toString(), "[]");
    Check.due("faults of the good sample", LanguageRules.faultsOf("P", GOOD).toString(), "[]");
    classAndMembers();
    types();
    arrays();
    statements();
    loops();
    calls();
    Check.finish();
  }

  /** The good sample with one part replaced breaks the rule of this number. */
  private static void dueFault(int rule, String part, String instead) throws Exception {
    List<String> faults = LanguageRules.faultsOf("P", GOOD.replace(part, instead));
    boolean found = faults.stream().anyMatch(fault -> fault.startsWith(rule + ":"));
    Check.due("rule " + rule + " is broken by " + Check.quote(instead) + ", found " + faults, found, true);
  }

  private static void classAndMembers() throws Exception {
    dueFault(1, CLASS, "package here; " + CLASS);
    dueFault(1, CLASS, "class Q { } " + CLASS);
    dueFault(1, CLASS, "public class P {");
    dueFault(1, CLASS, "public final class Q {");
    dueFault(1, CLASS, "public final class P implements Runnable {");
    dueFault(1, CLASS, "public interface P {");
    dueFault(1, FIELD, "int f;");
    dueFault(1, FIELD, "public int f;");
    dueFault(1, FIELD, "protected int f;");
    dueFault(1, FIELD, FIELD + " int r() { return 1; }");
    dueFault(1, FIELD, FIELD + " private int p() { return 1; }");
    dueFault(1, FIELD, FIELD + " private static final class Q { }");
    dueFault(1, FIELD, FIELD + " private enum Q { R }");
    dueFault(1, FIELD, FIELD + " private record Q(int x) { }");
    dueFault(5, FIELD, FIELD + " private static int s = 1;");
    dueFault(5, FIELD, FIELD + " private static final boolean S = true;");
    dueFault(5, FIELD, FIELD + " private static final int[] S = new int[3];");
    dueFault(5, FIELD, FIELD + " private static final int S = t(); private static int t() { return 1; }");
    dueFault(5, FIELD, FIELD + " static { }");
    dueFault(10, FIELD, FIELD + " private int r(int a, int b, int c, int d, int e, int g, int h, int i) { return 1; }");
    StringBuilder fields = new StringBuilder(FIELD);
    for (int i = 0; i < 45; i++) {
      fields.append("private int f").append(i).append(";");
    }
    dueFault(10, FIELD, fields.toString());
    dueFault(10, BODY, "f = 1;\n".repeat(70));
  }

  private static void types() throws Exception {
    dueFault(2, BODY, "double d = 1;");
    dueFault(2, BODY, "float d = 1;");
    dueFault(2, BODY, "String s = x;");
    dueFault(2, BODY, "f = (int) 1.5;");
    dueFault(2, BODY, "q(\"\");");
    dueFault(2, FIELD, "private int f; private Object o;");
    dueFault(2, FIELD, "private int f; private int[][] o = new int[3];");
    dueFault(2, FIELD, FIELD + " private String r() { return r(); }");
    dueFault(3, CLASS, "import java.util.List; " + CLASS);
    dueFault(3, BODY, "f = Math.abs(x);");
    dueFault(3, BODY, "f = Integer.MAX_VALUE;");
    dueFault(3, BODY, "f = java.lang.Integer.MAX_VALUE;");
    dueFault(3, BODY, "System.exit(1);");
    dueFault(3, BODY, "f = hashCode();");
    dueFault(3, BODY, "f = this.hashCode();");
    dueFault(3, BODY, "int[] b = a.clone();");
    dueFault(3, FIELD, "@Deprecated " + FIELD);
  }

  private static void arrays() throws Exception {
    dueFault(4, BODY, "int[] b = new int[3];");
    dueFault(4, BODY, "int[] b = {1, 2};");
    dueFault(4, BODY, "f = a == null ? 1 : 0;");
    dueFault(4, BODY, "a = a;");
    dueFault(4, BODY, "int[] b = a; f = a == b ? 1 : 0;");
    dueFault(4, BODY, "int[] b = a; while (x < 3) { x++; b = a; }");
    dueFault(4, "f = x;", "f = r(a); } private int r(int[] b) { return 1;");
    dueFault(4, BODY, "new P(1);");
    dueFault(4, FIELD, FIELD + " private int[] r() { return a; }");
    dueFault(4, "new int[C]", "new int[0]");
    dueFault(4, "new int[C]", "new int[f]");
    dueFault(4, "new int[C]", "new int[C + 1]");
    dueFault(4, "new int[C]", "new int[3][3]");
    dueFault(4, "new int[C]", "new int[] {1}");
    dueFault(4, "f = x;", "if (x > 0) { a = new int[C]; }");
    dueFault(4, "f = x;", "for (int i = 0; i < 3; i++) { a = new int[C]; }");
    dueFault(4, "f = x;", "a = x > 0 ? new int[C] : new int[3];");
  }

  private static void statements() throws Exception {
    dueFault(6, BODY, "throw x;");
    dueFault(6, BODY, "try { f = 1; } finally { f = 2; }");
    dueFault(6, BODY, "synchronized (this) { f = 1; }");
    dueFault(6, BODY, "assert f == 1;");
    dueFault(6, BODY, "f = a instanceof Object ? 1 : 0;");
    dueFault(6, BODY, "f = (Object) a;");
    dueFault(6, BODY, "f = () -> 1;");
    dueFault(6, BODY, "f = this::q;");
    dueFault(6, FIELD, FIELD + " private synchronized int r() { return 1; }");
    dueFault(6, FIELD, FIELD + " private int r() throws Exception { return 1; }");
  }

  private static void loops() throws Exception {
    dueFault(8, BODY, "for (;;) { f++; }");
    dueFault(8, BODY, "while (true) { f++; }");
    dueFault(8, BODY, "while (f != 3) { f++; }");
    dueFault(8, BODY, "while (x < 3) { f++; }");
    dueFault(8, BODY, "while (x < 3 || f == 0) { x++; }");
    dueFault(8, BODY, "do { f++; } while (x < 3);");
    dueFault(8, BODY, "for (int i = 0; i < 3;) { f++; }");
  }

  private static void calls() throws Exception {
    dueFault(8, BODY, "f = p(x);");
    dueFault(8, "return x > 0 ? x : -x;", "return p(x);");
    dueFault(10, BODY, "f = q(q(x));");
    dueFault(10, BODY, "f = q(1 + q(x));");
    StringBuilder chain = new StringBuilder(FIELD + " private int r7() { return 1; }");
    for (int i = 6; i >= 1; i--) {
      chain.append(" private int r").append(i).append("() { return r").append(i + 1).append("(); }");
    }
    dueFault(10, FIELD, chain.toString());
  }
}
