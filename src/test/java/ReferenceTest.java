import java.util.ArrayList;
import java.util.List;
import java.util.TreeMap;

/** All promises: many made-up runs of calls, each answered by the program and by the reference alike. */
public final class ReferenceTest {
  private static final String[] SCRAPS = {
    "LET ", "PRINT ", "IF ", " THEN ", "GOTO ", "GOSUB ", "RETURN", "FOR ", " TO ", "NEXT ", "END", "A", "B", "Z", "(", ")",
    "+", "-", "*", "/", "=", "<", ">", "<=", ">=", "<>", " ", "0", "1", "7", "10", "32767", "32768", "AB", "a", "%", "\n"
  };
  private static final int[] FUELS = {Integer.MIN_VALUE, 0, 1, 1, 2, 3, 5, 8, 20, 100, 1000, 1001, Integer.MAX_VALUE};
  private static final int[] ODD_CHARACTERS = {0, 0, 9, 10, 11, 31, 32, 48, 65, 126, 127, -1, 1 << 20, Integer.MIN_VALUE};

  // A fixed sequence, so that every run of the test makes up the same programs.
  private static long seed = 20261115L;

  public static void main(String[] args) {
    TreeMap<String, Integer> seen = new TreeMap<>();
    for (int round = 0; round < 20000; round++) {
      session(round, seen);
    }
    System.out.println(seen);
    // The made-up runs are of use only if they come to every answer.
    for (int answer = TinyBasicVm.C_OK; answer <= TinyBasicVm.C_LINE_TOO_LONG; answer++) {
      Check.due("compile answers " + answer + " often", seen.getOrDefault("compile " + answer, 0) > 100, true);
    }
    for (int answer = TinyBasicVm.ST_HALTED; answer <= TinyBasicVm.ERR_OUTPUT_FULL; answer++) {
      Check.due("run answers " + answer + " often", seen.getOrDefault("run " + answer, 0) > 100, true);
    }
    Check.finish();
  }

  private static int below(int bound) {
    seed = seed * 6364136223846793005L + 1442695040888963407L;
    return (int) ((seed >>> 33) % bound);
  }

  private static String any(String... choices) {
    return choices[below(choices.length)];
  }

  private static void session(int round, TreeMap<String, Integer> seen) {
    int[] sizes = {below(11) - 1, below(11) - 1, below(36) - 1};
    TinyBasicVm vm = new TinyBasicVm(sizes[0], sizes[1], sizes[2]);
    Reference reference = new Reference(sizes[0], sizes[1], sizes[2]);
    for (int part = 0; part < 2; part++) {
      putAll(vm, reference, round % 5 == 0 ? scraps() : program());
      for (int call = 0; call < 6; call++) {
        String what = "round " + round + ", " + Check.quote(reference.source());
        call(what, below(20), vm, reference, seen);
        Check.due(what, Check.wholeState(vm), reference.wholeState());
      }
      call("round " + round, below(3) == 0 ? 19 : 18, vm, reference, seen);
    }
  }

  private static void call(String what, int choice, TinyBasicVm vm, Reference reference, TreeMap<String, Integer> seen) {
    int fuel = FUELS[below(FUELS.length)];
    if (choice < 5) {
      int answer = vm.compile();
      seen.merge("compile " + answer, 1, Integer::sum);
      Check.due("compile, " + what, answer, reference.compile());
    } else if (choice < 11) {
      int answer = vm.run(fuel);
      seen.merge("run " + answer, 1, Integer::sum);
      Check.due("run(" + fuel + "), " + what, answer, reference.run(fuel));
    } else if (choice < 17) {
      int answer = vm.cont(fuel);
      seen.merge("cont " + answer, 1, Integer::sum);
      Check.due("cont(" + fuel + "), " + what, answer, reference.cont(fuel));
    } else if (choice < 18) {
      int[] c = new int[4];
      for (int i = 0; i < 4; i++) {
        c[i] = ODD_CHARACTERS[below(ODD_CHARACTERS.length)];
      }
      Check.due("put, " + what, vm.put(c[0], c[1], c[2], c[3]), reference.put(c));
    } else if (choice < 19) {
      vm.clear();
      reference.clear();
    }
  }

  private static void putAll(TinyBasicVm vm, Reference reference, String text) {
    int i = 0;
    while (i < text.length()) {
      int[] c = new int[4];
      int size = below(8) == 0 ? below(4) + 1 : 4;
      for (int j = 0; j < size && i < text.length(); j++) {
        c[j] = text.charAt(i);
        i++;
      }
      Check.due("put of " + Check.quote(text), vm.put(c[0], c[1], c[2], c[3]), reference.put(c));
    }
    if (below(10) != 0) {
      Check.due("compile of " + Check.quote(text), vm.compile(), reference.compile());
    }
  }

  private static String scraps() {
    StringBuilder text = new StringBuilder();
    int lines = below(4) + 1;
    for (int line = 0; line < lines; line++) {
      text.append(line + 1).append(' ');
      int count = below(7) + 1;
      for (int i = 0; i < count; i++) {
        text.append(SCRAPS[below(SCRAPS.length)]);
      }
      text.append('\n');
    }
    return text.toString();
  }

  /** A program of sound lines with small numbers, now and then with one fault in it. */
  private static String program() {
    int count = below(16) == 0 ? 15 + below(4) : below(12) + 1;
    List<Integer> numbers = new ArrayList<>();
    for (int i = 1; i <= count; i++) {
      numbers.add(below(25) == 0 ? below(5) + 1 : i);
    }
    java.util.Collections.rotate(numbers, below(count));
    StringBuilder text = new StringBuilder();
    for (int number : numbers) {
      text.append(number).append(count > 14 ? any("END", "NEXT A", "RETURN", "PRINT 1", "LET A=B") : statement(count));
      text.append(any("", "", "", "", " ", below(8) == 0 ? Check.spaces(25) : ""));
      text.append(below(10) == 0 ? "\n \n" : "\n");
    }
    return text.toString();
  }

  private static String statement(int count) {
    switch (below(13)) {
      case 0: return "LET " + variable() + "=" + expression(2);
      case 1: return "LET " + variable() + "=" + expression(3);
      case 2: return "PRINT " + expression(2);
      case 3: return "IF " + expression(1) + any("=", "<>", "<", ">", "<=", ">=") + expression(1) + " THEN " + target(count);
      case 4: return "GOTO " + target(count);
      case 5: return "GOSUB " + target(count);
      case 6: return "GOSUB " + target(count);
      case 7: return "RETURN";
      case 8: return "FOR " + variable() + "=" + expression(1) + " TO " + expression(1);
      case 9: return "FOR " + variable() + "=" + below(3) + " TO " + below(9);
      case 10: return "NEXT " + variable();
      case 11: return "PRINT " + variable();
      default: return below(3) == 0 ? "END" : "NEXT " + variable();
    }
  }

  private static String variable() {
    return any("A", "B", "C", "D", "E", "F", "G", "H", "I", "Z");
  }

  private static String target(int count) {
    return below(8) == 0 ? expression(1) : "" + (below(count + (below(4) == 0 ? 1 : 0)) + 1);
  }

  private static String expression(int depth) {
    if (depth == 0 || below(3) == 0) {
      return below(2) == 0 ? variable() : any("0", "1", "2", "3", "7", "32767");
    }
    switch (below(8)) {
      case 0: return "-" + expression(depth - 1);
      case 1: return "(" + expression(depth - 1) + ")";
      case 2: return "(" + expression(depth - 1) + ")" + any("*", "/") + expression(depth - 1);
      default: return expression(depth - 1) + any("+", "-", "*", "/") + expression(depth - 1);
    }
  }
}
