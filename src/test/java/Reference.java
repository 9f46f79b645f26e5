import java.util.ArrayList;
import java.util.List;
import java.util.Set;
import java.util.TreeMap;

/**
 * The document told a second time, with the Java library, recursion and exceptions, and sharing nothing with the
 * program: it interprets the text of a line afresh each time the line runs.
 */
final class Reference {
  private static final Set<String> WORDS =
      Set.of("LET", "PRINT", "IF", "THEN", "GOTO", "GOSUB", "RETURN", "FOR", "TO", "NEXT", "END");
  private static final Set<String> RELATIONS = Set.of("=", "<>", "<", ">", "<=", ">=");
  private static final int END_OF_PROGRAM = Integer.MAX_VALUE;

  /** Ends a statement with a status, or a compile with C_SYNTAX. */
  private static final class Stop extends RuntimeException {
    private static final long serialVersionUID = 1L;
    final int code;

    Stop(int code) {
      super(null, null, false, false);
      this.code = code;
    }
  }

  private record Frame(int variable, int limit, int body) {}

  private final int gosubDepth;
  private final int forDepth;
  private final int outCap;
  private final StringBuilder source = new StringBuilder();
  private final TreeMap<Integer, List<String>> program = new TreeMap<>();
  private boolean compiled = false;
  private int errorLine = 0;

  private int status;
  private int stopLine;
  private int steps;
  private int position;
  private int[] variables;
  private List<Integer> output;
  private List<Integer> gosubs;
  private List<Frame> frames;

  // The tokens of the line at hand; when checking, expressions have the value 1 and nothing divides.
  private List<String> tokens;
  private int at;
  private boolean checking;

  Reference(int gosubDepth, int forDepth, int outCap) {
    this.gosubDepth = Math.min(8, Math.max(1, gosubDepth));
    this.forDepth = Math.min(8, Math.max(1, forDepth));
    this.outCap = Math.min(32, Math.max(1, outCap));
    reset();
  }

  private void reset() {
    status = TinyBasicVm.ST_IDLE;
    stopLine = -1;
    steps = 0;
    variables = new int[26];
    output = new ArrayList<>();
    gosubs = new ArrayList<>();
    frames = new ArrayList<>();
  }

  private void discard() {
    program.clear();
    compiled = false;
    errorLine = 0;
    reset();
  }

  boolean put(int... group) {
    StringBuilder taken = new StringBuilder();
    for (int i = 0; i < 4 && group[i] != 0; i++) {
      if (group[i] != 10 && (group[i] < 32 || group[i] > 126)) {
        return false;
      }
      taken.append((char) group[i]);
    }
    if (taken.length() == 0 || source.length() + taken.length() > 256) {
      return false;
    }
    source.append(taken);
    discard();
    return true;
  }

  void clear() {
    source.setLength(0);
    discard();
  }

  int compile() {
    discard();
    String[] physical = source.toString().split("\n", -1);
    for (int i = 0; i < physical.length; i++) {
      int answer = compileLine(physical[i]);
      if (answer != TinyBasicVm.C_OK) {
        program.clear();
        errorLine = i + 1;
        return answer;
      }
    }
    compiled = true;
    return TinyBasicVm.C_OK;
  }

  private int compileLine(String text) {
    if (text.length() > 40) {
      return TinyBasicVm.C_LINE_TOO_LONG;
    }
    if (text.isBlank()) {
      return TinyBasicVm.C_OK;
    }
    if (program.size() == 16) {
      return TinyBasicVm.C_TOO_MANY_LINES;
    }
    int number;
    try {
      checking = true;
      tokens = tokensOf(text);
      at = 0;
      number = number();
      statement();
      demand(number >= 1 && at == tokens.size());
    } catch (Stop stop) {
      return TinyBasicVm.C_SYNTAX;
    } finally {
      checking = false;
    }
    if (program.containsKey(number)) {
      return TinyBasicVm.C_DUP_LINE;
    }
    program.put(number, tokens);
    return TinyBasicVm.C_OK;
  }

  private static void demand(boolean condition) {
    if (!condition) {
      throw new Stop(TinyBasicVm.C_SYNTAX);
    }
  }

  private static List<String> tokensOf(String text) {
    List<String> found = new ArrayList<>();
    var matcher = java.util.regex.Pattern.compile(" +|[0-9]+|[A-Z]+|<=|<>|>=|[-+*/()=<>]|.").matcher(text);
    while (matcher.find()) {
      String token = matcher.group();
      if (!token.isBlank()) {
        demand(token.matches("[0-9]+|[A-Z]|[A-Z]{2,}|<=|<>|>=|[-+*/()=<>]"));
        demand(!token.matches("[A-Z]{2,}") || WORDS.contains(token));
        demand(!token.matches("[0-9]+") || new java.math.BigInteger(token).bitLength() <= 15);
        found.add(token);
      }
    }
    return found;
  }

  private String peek() {
    return at < tokens.size() ? tokens.get(at) : "";
  }

  private String next() {
    String token = peek();
    at++;
    return token;
  }

  private void demandNext(String token) {
    demand(next().equals(token));
  }

  private int number() {
    String token = next();
    demand(token.matches("[0-9]+"));
    return Integer.parseInt(token);
  }

  private int variable() {
    String token = next();
    demand(token.matches("[A-Z]"));
    return token.charAt(0) - 'A';
  }

  private int expression() {
    int value = term();
    while (peek().equals("+") || peek().equals("-")) {
      boolean plus = next().equals("+");
      int right = term();
      value = plus ? value + right : value - right;
    }
    return value;
  }

  private int term() {
    int value = factor();
    while (peek().equals("*") || peek().equals("/")) {
      boolean times = next().equals("*");
      int right = factor();
      if (!times && right == 0 && !checking) {
        throw new Stop(TinyBasicVm.ERR_DIV_ZERO);
      }
      value = checking ? 1 : times ? value * right : value / right;
    }
    return value;
  }

  private int factor() {
    if (peek().equals("-")) {
      next();
      int value = factor();
      return -value;
    }
    if (peek().equals("(")) {
      next();
      int value = expression();
      demandNext(")");
      return value;
    }
    return peek().matches("[0-9]+") ? number() : variables[variable()];
  }

  /** Runs the statement from here and moves the position; when checking, only reads it. */
  private void statement() {
    int after = checking ? 0 : after(position);
    String word = next();
    switch (word) {
      case "LET" -> {
        int v = variable();
        demandNext("=");
        int value = expression();
        if (!checking) {
          variables[v] = value;
          position = after;
        }
      }
      case "PRINT" -> {
        int value = expression();
        if (!checking) {
          failIf(output.size() == outCap, TinyBasicVm.ERR_OUTPUT_FULL);
          output.add(value);
          position = after;
        }
      }
      case "IF" -> condition(after);
      case "GOTO" -> {
        int target = expression();
        if (!checking) {
          failIf(!program.containsKey(target), TinyBasicVm.ERR_UNDEFINED_LINE);
          position = target;
        }
      }
      case "GOSUB" -> {
        int target = expression();
        if (!checking) {
          failIf(!program.containsKey(target), TinyBasicVm.ERR_UNDEFINED_LINE);
          failIf(gosubs.size() == gosubDepth, TinyBasicVm.ERR_GOSUB_OVERFLOW);
          gosubs.add(after);
          position = target;
        }
      }
      case "RETURN" -> {
        if (!checking) {
          failIf(gosubs.isEmpty(), TinyBasicVm.ERR_RETURN_WITHOUT_GOSUB);
          position = gosubs.remove(gosubs.size() - 1);
        }
      }
      case "FOR" -> loop(after);
      case "NEXT" -> endOfLoop(after);
      case "END" -> failIf(!checking, TinyBasicVm.ST_HALTED);
      default -> demand(false);
    }
  }

  private static void failIf(boolean condition, int code) {
    if (condition) {
      throw new Stop(code);
    }
  }

  private int after(int line) {
    Integer higher = program.higherKey(line);
    return higher == null ? END_OF_PROGRAM : higher;
  }

  private void condition(int after) {
    int left = expression();
    String relation = next();
    demand(RELATIONS.contains(relation));
    int right = expression();
    demandNext("THEN");
    boolean holds = relation.contains("=") && left == right
        || relation.contains("<") && left < right || relation.contains(">") && left > right;
    if (checking) {
      expression();
    } else if (!holds) {
      position = after;
    } else {
      int target = expression();
      failIf(!program.containsKey(target), TinyBasicVm.ERR_UNDEFINED_LINE);
      position = target;
    }
  }

  private int frameOf(int v) {
    for (int i = 0; i < frames.size(); i++) {
      if (frames.get(i).variable() == v) {
        return i;
      }
    }
    return -1;
  }

  private void loop(int after) {
    int v = variable();
    demandNext("=");
    int first = expression();
    demandNext("TO");
    int limit = expression();
    if (!checking) {
      int k = frameOf(v) < 0 ? frames.size() : frameOf(v);
      failIf(k == forDepth, TinyBasicVm.ERR_FOR_OVERFLOW);
      frames = new ArrayList<>(frames.subList(0, k));
      variables[v] = first;
      frames.add(new Frame(v, limit, after));
      position = after;
    }
  }

  private void endOfLoop(int after) {
    int v = variable();
    if (!checking) {
      int k = frameOf(v);
      failIf(k < 0, TinyBasicVm.ERR_NEXT_WITHOUT_FOR);
      frames = new ArrayList<>(frames.subList(0, k + 1));
      Frame frame = frames.get(k);
      variables[v] += 1;
      if (variables[v] <= frame.limit()) {
        position = frame.body();
      } else {
        frames.remove(k);
        position = after;
      }
    }
  }

  int run(int fuel) {
    if (!compiled) {
      return TinyBasicVm.REFUSED;
    }
    reset();
    position = program.isEmpty() ? END_OF_PROGRAM : program.firstKey();
    return loopWith(fuel);
  }

  int cont(int fuel) {
    return status == TinyBasicVm.ST_OUT_OF_FUEL ? loopWith(fuel) : TinyBasicVm.REFUSED;
  }

  private int loopWith(int fuel) {
    int left = Math.min(1000, Math.max(1, fuel));
    while (true) {
      if (position == END_OF_PROGRAM) {
        return stop(TinyBasicVm.ST_HALTED, -1);
      }
      if (left == 0) {
        return stop(TinyBasicVm.ST_OUT_OF_FUEL, position);
      }
      left--;
      steps++;
      int line = position;
      try {
        tokens = program.get(line);
        at = 1;
        statement();
      } catch (Stop stop) {
        return stop(stop.code, line);
      }
    }
  }

  private int stop(int newStatus, int line) {
    status = newStatus;
    stopLine = line;
    return newStatus;
  }

  /** The same text as Check.wholeState of the program's object. */
  String wholeState() {
    StringBuilder state = new StringBuilder("error " + errorLine + " lines " + program.size() + ":");
    List<Integer> numbers = new ArrayList<>(program.keySet());
    for (int k = 0; k < 17; k++) {
      state.append(' ').append(k < numbers.size() ? numbers.get(k) : -1);
    }
    state.append(" status ").append(status).append(" stop ").append(stopLine).append(" steps ").append(steps);
    state.append(" vars");
    for (int value : variables) {
      state.append(' ').append(value);
    }
    state.append(" out ").append(output.size()).append(':');
    for (int i = 0; i < 33; i++) {
      state.append(' ').append(i < output.size() ? output.get(i) : 0);
    }
    return state.append(" gosub ").append(gosubs.size()).append(" for ").append(frames.size()).toString();
  }

  String source() {
    return source.toString();
  }
}
