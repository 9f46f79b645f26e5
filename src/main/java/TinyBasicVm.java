/** A small BASIC system: source text is put in, compiled as a whole, and run under a budget of statements. */
public final class TinyBasicVm {
  public static final int REFUSED = -1;
  public static final int C_OK = 0;
  public static final int C_SYNTAX = 1;
  public static final int C_DUP_LINE = 2;
  public static final int C_TOO_MANY_LINES = 3;
  public static final int C_LINE_TOO_LONG = 4;
  public static final int ST_IDLE = 0;
  public static final int ST_HALTED = 1;
  public static final int ST_OUT_OF_FUEL = 2;
  public static final int ERR_UNDEFINED_LINE = 3;
  public static final int ERR_RETURN_WITHOUT_GOSUB = 4;
  public static final int ERR_NEXT_WITHOUT_FOR = 5;
  public static final int ERR_DIV_ZERO = 6;
  public static final int ERR_GOSUB_OVERFLOW = 7;
  public static final int ERR_FOR_OVERFLOW = 8;
  public static final int ERR_OUTPUT_FULL = 9;
  public static final int MAX_CHARS = 256;
  public static final int MAX_LINES = 16;
  public static final int MAX_LINE_LEN = 40;
  public static final int MAX_FUEL = 1000;
  public static final int STACK_GOSUB = 0;
  public static final int STACK_FOR = 1;

  private static final int MAX_DEPTH = 8;
  private static final int MAX_OUTPUT = 32;
  private static final int MAX_NUMBER = 32767;
  private static final int MAX_WORD_LEN = 6;
  private static final int VARIABLES = 26;

  // IF has three expressions, and no statement has more: three places for each of the lines.
  private static final int SLOTS = 3;
  private static final int MAX_EXPRESSIONS = 48;

  private static final int NEWLINE = 10;
  private static final int SPACE = 32;
  private static final int LAST_PRINTABLE = 126;

  // What a search, a reading or the stop line answers when there is nothing to answer.
  private static final int NONE = -1;

  // The outcome of a statement after which the run goes on; no final status has this value.
  private static final int GOING = ST_IDLE;

  // A token is one int: a number stands for itself, everything else lies above MAX_NUMBER.
  private static final int VAR_A = 40000;
  private static final int LET = 40101;
  private static final int PRINT = 40102;
  private static final int IF = 40103;
  private static final int THEN = 40104;
  private static final int GOTO = 40105;
  private static final int GOSUB = 40106;
  private static final int RETURN = 40107;
  private static final int FOR = 40108;
  private static final int TO = 40109;
  private static final int NEXT = 40110;
  private static final int END = 40111;
  private static final int PLUS = 40201;
  private static final int MINUS = 40202;
  private static final int TIMES = 40203;
  private static final int DIVIDE = 40204;
  private static final int NEGATE = 40205;
  private static final int OPEN = 40206;
  private static final int CLOSE = 40207;
  private static final int EQUAL = 40208;
  private static final int UNEQUAL = 40209;
  private static final int LESS = 40210;
  private static final int GREATER = 40211;
  private static final int AT_MOST = 40212;
  private static final int AT_LEAST = 40213;

  // Words packed as wordOf does it, five bits a letter, since there are no strings to compare.
  private static final int WORD_IF = ('I' & 31) << 5 | 'F' & 31;
  private static final int WORD_TO = ('T' & 31) << 5 | 'O' & 31;
  private static final int WORD_LET = ('L' & 31) << 10 | ('E' & 31) << 5 | 'T' & 31;
  private static final int WORD_FOR = ('F' & 31) << 10 | ('O' & 31) << 5 | 'R' & 31;
  private static final int WORD_END = ('E' & 31) << 10 | ('N' & 31) << 5 | 'D' & 31;
  private static final int WORD_THEN =
      ('T' & 31) << 15 | ('H' & 31) << 10 | ('E' & 31) << 5 | 'N' & 31;
  private static final int WORD_GOTO =
      ('G' & 31) << 15 | ('O' & 31) << 10 | ('T' & 31) << 5 | 'O' & 31;
  private static final int WORD_NEXT =
      ('N' & 31) << 15 | ('E' & 31) << 10 | ('X' & 31) << 5 | 'T' & 31;
  private static final int WORD_PRINT =
      ('P' & 31) << 20 | ('R' & 31) << 15 | ('I' & 31) << 10 | ('N' & 31) << 5 | 'T' & 31;
  private static final int WORD_GOSUB =
      ('G' & 31) << 20 | ('O' & 31) << 15 | ('S' & 31) << 10 | ('U' & 31) << 5 | 'B' & 31;
  private static final int WORD_RETURN =
      ('R' & 31) << 25 | ('E' & 31) << 20 | ('T' & 31) << 15 | ('U' & 31) << 10 | ('R' & 31) << 5 | 'N' & 31;

  private final int gosubDepth;
  private final int forDepth;
  private final int outCap;

  private final int[] source = new int[MAX_CHARS];
  private int sourceLength;

  private boolean compiled;
  private int errorLine;

  // The tokens of the line that is being compiled.
  private final int[] tokens = new int[MAX_LINE_LEN];
  private int tokenCount;
  private int tokenAt;

  // Operators of the expression that is being compiled that wait for their right operand.
  private final int[] held = new int[MAX_LINE_LEN];
  private int heldCount;

  // Lines lie in text order; programOrder has their places by ascending number.
  private final int[] programOrder = new int[MAX_LINES];
  private final int[] lineNumber = new int[MAX_LINES];
  private final int[] lineKeyword = new int[MAX_LINES];
  private final int[] lineVariable = new int[MAX_LINES];
  private final int[] lineRelation = new int[MAX_LINES];
  private int lineTotal;

  // Expressions in postfix order. Each entry comes from a character of its own, so MAX_CHARS is room enough.
  private final int[] code = new int[MAX_CHARS];
  private int codeLength;
  private final int[] codeStart = new int[MAX_EXPRESSIONS];
  private final int[] codeEnd = new int[MAX_EXPRESSIONS];

  private final int[] operands = new int[MAX_LINE_LEN];
  private boolean dividedByZero;

  private int status;
  private int stopLine;
  private int steps;
  // A place in programOrder; lineTotal is END-OF-PROGRAM.
  private int position;
  private final int[] variables = new int[VARIABLES];
  private final int[] output = new int[MAX_OUTPUT];
  private int outputCount;
  private final int[] returnTo = new int[MAX_DEPTH];
  private int gosubCount;
  private final int[] frameVariable = new int[MAX_DEPTH];
  private final int[] frameLimit = new int[MAX_DEPTH];
  private final int[] frameBody = new int[MAX_DEPTH];
  private int frameCount;

  public TinyBasicVm(int gosubDepth, int forDepth, int outCap) {
    this.gosubDepth = clamp(gosubDepth, 1, MAX_DEPTH);
    this.forDepth = clamp(forDepth, 1, MAX_DEPTH);
    this.outCap = clamp(outCap, 1, MAX_OUTPUT);
    forgetProgram();
  }

  public boolean put(int c1, int c2, int c3, int c4) {
    int length = groupLength(c1, c2, c3, c4);
    if (length == 0 || sourceLength + length > MAX_CHARS) {
      return false;
    }
    boolean good = isSourceCharacter(c1);
    good = good && (length < 2 || isSourceCharacter(c2));
    good = good && (length < 3 || isSourceCharacter(c3));
    good = good && (length < 4 || isSourceCharacter(c4));
    if (!good) {
      return false;
    }
    append(c1);
    if (length > 1) {
      append(c2);
    }
    if (length > 2) {
      append(c3);
    }
    if (length > 3) {
      append(c4);
    }
    forgetProgram();
    return true;
  }

  public void clear() {
    sourceLength = 0;
    forgetProgram();
  }

  public int compile() {
    forgetProgram();
    int answer = C_OK;
    int physicalLine = 0;
    int start = 0;
    for (int at = 0; at <= sourceLength && answer == C_OK; at++) {
      if (at == sourceLength || source[at] == NEWLINE) {
        physicalLine++;
        answer = compileLine(start, at);
        start = at + 1;
      }
    }
    if (answer == C_OK) {
      compiled = true;
    } else {
      lineTotal = 0;
      errorLine = physicalLine;
    }
    return answer;
  }

  public int getCompileErrorLine() {
    return errorLine;
  }

  public int lineCount() {
    return lineTotal;
  }

  public int lineNumberAt(int k) {
    if (k < 0 || k >= lineTotal) {
      return NONE;
    }
    return lineNumber[programOrder[k]];
  }

  public int run(int fuel) {
    if (!compiled) {
      return REFUSED;
    }
    resetRun();
    int budget = clamp(fuel, 1, MAX_FUEL);
    runLoop(budget);
    return status;
  }

  public int cont(int fuel) {
    if (status != ST_OUT_OF_FUEL) {
      return REFUSED;
    }
    int budget = clamp(fuel, 1, MAX_FUEL);
    runLoop(budget);
    return status;
  }

  public int getStatus() {
    return status;
  }

  public int getStopLine() {
    return stopLine;
  }

  public int getSteps() {
    return steps;
  }

  public int getVar(int v) {
    return v >= 0 && v < VARIABLES ? variables[v] : 0;
  }

  public int getOutputCount() {
    return outputCount;
  }

  public int getOutput(int i) {
    return i >= 0 && i < outputCount ? output[i] : 0;
  }

  public int getStackDepth(int kind) {
    if (kind == STACK_GOSUB) {
      return gosubCount;
    }
    return kind == STACK_FOR ? frameCount : 0;
  }

  private static int clamp(int value, int low, int high) {
    if (value < low) {
      return low;
    }
    return value > high ? high : value;
  }

  // ---- source ----

  private static int groupLength(int c1, int c2, int c3, int c4) {
    if (c1 == 0) {
      return 0;
    }
    if (c2 == 0) {
      return 1;
    }
    if (c3 == 0) {
      return 2;
    }
    return c4 == 0 ? 3 : 4;
  }

  private static boolean isSourceCharacter(int c) {
    return c == NEWLINE || c >= SPACE && c <= LAST_PRINTABLE;
  }

  private void append(int c) {
    if (sourceLength < MAX_CHARS) {
      source[sourceLength] = c;
      sourceLength++;
    }
  }

  private void forgetProgram() {
    compiled = false;
    errorLine = 0;
    lineTotal = 0;
    codeLength = 0;
    resetRun();
  }

  private void resetRun() {
    status = ST_IDLE;
    stopLine = NONE;
    steps = 0;
    position = 0;
    for (int v = 0; v < VARIABLES; v++) {
      variables[v] = 0;
    }
    outputCount = 0;
    gosubCount = 0;
    frameCount = 0;
  }

  // ---- compiling ----

  /** Compiles the physical line of the characters from..to-1; the order of the checks is the document's. */
  private int compileLine(int from, int to) {
    if (to - from > MAX_LINE_LEN) {
      return C_LINE_TOO_LONG;
    }
    if (isBlank(from, to)) {
      return C_OK;
    }
    int line = lineTotal;
    if (line >= MAX_LINES) {
      return C_TOO_MANY_LINES;
    }
    if (!readTokens(from, to) || !takeLineNumber(line) || !takeStatement(line) || tokenAt < tokenCount) {
      return C_SYNTAX;
    }
    if (findLine(lineNumber[line]) != NONE) {
      return C_DUP_LINE;
    }
    acceptLine(line);
    return C_OK;
  }

  private boolean isBlank(int from, int to) {
    for (int at = from; at < to; at++) {
      if (source[at] != SPACE) {
        return false;
      }
    }
    return true;
  }

  /** Puts the line at its place in program order. */
  private void acceptLine(int line) {
    int place = line;
    while (place > 0 && lineNumber[programOrder[place - 1]] > lineNumber[line]) {
      programOrder[place] = programOrder[place - 1];
      place--;
    }
    programOrder[place] = line;
    lineTotal = line + 1;
  }

  private boolean readTokens(int from, int to) {
    tokenCount = 0;
    tokenAt = 0;
    int at = from;
    // Each pass takes a character at least, and a line has at most MAX_LINE_LEN of them.
    for (int pass = 0; pass < MAX_LINE_LEN && at < to; pass++) {
      if (source[at] == SPACE) {
        at++;
      } else {
        int length = tokenLength(at, to);
        int token = tokenOf(at, length);
        if (token == NONE) {
          return false;
        }
        tokens[tokenCount] = token;
        tokenCount++;
        at += length;
      }
    }
    return true;
  }

  private int tokenLength(int at, int to) {
    if (isDigit(source[at])) {
      return digitsFrom(at, to);
    }
    return isLetter(source[at]) ? lettersFrom(at, to) : symbolLength(at, to);
  }

  /** Answers the token of these characters, or NONE if they are none. */
  private int tokenOf(int at, int length) {
    if (isDigit(source[at])) {
      return numberOf(at, length);
    }
    return isLetter(source[at]) ? wordOf(at, length) : symbolOf(at, length);
  }

  private static boolean isDigit(int c) {
    return c >= '0' && c <= '9';
  }

  private static boolean isLetter(int c) {
    return c >= 'A' && c <= 'Z';
  }

  private int digitsFrom(int at, int to) {
    int end = at;
    while (end < to && isDigit(source[end])) {
      end++;
    }
    return end - at;
  }

  private int lettersFrom(int at, int to) {
    int end = at;
    while (end < to && isLetter(source[end])) {
      end++;
    }
    return end - at;
  }

  private int symbolLength(int at, int to) {
    if (at + 1 >= to) {
      return 1;
    }
    int c = source[at];
    int next = source[at + 1];
    boolean pair = c == '<' && (next == '=' || next == '>') || c == '>' && next == '=';
    return pair ? 2 : 1;
  }

  private int numberOf(int at, int length) {
    int value = 0;
    for (int i = 0; i < length; i++) {
      value = value * 10 + source[at + i] - '0';
      if (value > MAX_NUMBER) {
        return NONE;
      }
    }
    return value;
  }

  private int wordOf(int at, int length) {
    if (length == 1) {
      return VAR_A + source[at] - 'A';
    }
    if (length > MAX_WORD_LEN) {
      return NONE;
    }
    int packed = 0;
    for (int i = 0; i < length; i++) {
      packed = packed << 5 | source[at + i] & 31;
    }
    return keywordOf(packed);
  }

  private static int keywordOf(int packed) {
    switch (packed) {
      case WORD_LET: return LET;
      case WORD_PRINT: return PRINT;
      case WORD_IF: return IF;
      case WORD_THEN: return THEN;
      case WORD_GOTO: return GOTO;
      case WORD_GOSUB: return GOSUB;
      case WORD_RETURN: return RETURN;
      case WORD_FOR: return FOR;
      case WORD_TO: return TO;
      case WORD_NEXT: return NEXT;
      case WORD_END: return END;
      default: return NONE;
    }
  }

  private int symbolOf(int at, int length) {
    int c = source[at];
    if (length == 2) {
      return c == '>' ? AT_LEAST : source[at + 1] == '=' ? AT_MOST : UNEQUAL;
    }
    switch (c) {
      case '+': return PLUS;
      case '-': return MINUS;
      case '*': return TIMES;
      case '/': return DIVIDE;
      case '(': return OPEN;
      case ')': return CLOSE;
      case '=': return EQUAL;
      case '<': return LESS;
      case '>': return GREATER;
      default: return NONE;
    }
  }

  /** Answers the next token and moves past it; NONE at the end of the line. */
  private int nextToken() {
    if (tokenAt >= tokenCount) {
      return NONE;
    }
    int token = tokens[tokenAt];
    tokenAt++;
    return token;
  }

  private boolean take(int wanted) {
    int token = nextToken();
    return token == wanted;
  }

  private boolean takeLineNumber(int line) {
    int token = nextToken();
    lineNumber[line] = token;
    return token >= 1 && token <= MAX_NUMBER;
  }

  private boolean takeVariable(int line) {
    int token = nextToken();
    if (!isVariable(token)) {
      return false;
    }
    lineVariable[line] = token - VAR_A;
    return true;
  }

  private boolean takeRelation(int line) {
    int token = nextToken();
    lineRelation[line] = token;
    return token >= EQUAL && token <= AT_LEAST;
  }

  private static boolean isVariable(int token) {
    return token >= VAR_A && token < VAR_A + VARIABLES;
  }

  private static boolean isNumber(int token) {
    return token >= 0 && token <= MAX_NUMBER;
  }

  private boolean takeStatement(int line) {
    int slot = line * SLOTS;
    int keyword = nextToken();
    lineKeyword[line] = keyword;
    switch (keyword) {
      case LET:
        return takeVariable(line) && take(EQUAL) && takeExpression(slot);
      case PRINT:
      case GOTO:
      case GOSUB:
        return takeExpression(slot);
      case IF:
        return takeExpression(slot) && takeRelation(line) && takeExpression(slot + 1)
            && take(THEN) && takeExpression(slot + 2);
      case FOR:
        return takeVariable(line) && take(EQUAL) && takeExpression(slot) && take(TO) && takeExpression(slot + 1);
      case NEXT:
        return takeVariable(line);
      case RETURN:
      case END:
        return true;
      default:
        return false;
    }
  }

  /**
   * Takes the longest expression from here and writes it in postfix order. Operators are held back until an
   * operator that binds no tighter, a closing parenthesis or the end shows that their right operand is whole.
   */
  private boolean takeExpression(int slot) {
    codeStart[slot] = codeLength;
    heldCount = 0;
    boolean operandDue = true;
    int at = tokenAt;
    for (; at < tokenCount; at++) {
      int token = tokens[at];
      int rank = rankOf(token);
      if (operandDue && (isNumber(token) || isVariable(token))) {
        emit(token);
        operandDue = false;
      } else if (operandDue && token == MINUS) {
        hold(NEGATE);
      } else if (operandDue && token == OPEN) {
        hold(OPEN);
      } else if (operandDue) {
        return false;
      } else if (rank > 0) {
        release(rank);
        hold(token);
        operandDue = true;
      } else if (token == CLOSE) {
        release(1);
        if (heldCount == 0) {
          return false;
        }
        heldCount--;
      } else {
        break;
      }
    }
    tokenAt = at;
    release(1);
    codeEnd[slot] = codeLength;
    // What is still held now is a parenthesis that was never closed.
    return !operandDue && heldCount == 0;
  }

  /** How tightly an operator binds; 0 for everything that is no operator. */
  private static int rankOf(int token) {
    switch (token) {
      case PLUS:
      case MINUS:
        return 1;
      case TIMES:
      case DIVIDE:
        return 2;
      case NEGATE:
        return 3;
      default:
        return 0;
    }
  }

  private void hold(int token) {
    if (heldCount < MAX_LINE_LEN) {
      held[heldCount] = token;
      heldCount++;
    }
  }

  /** Writes the operators held last, as far as they bind at least as tightly as rank. */
  private void release(int rank) {
    for (int top = heldCount - 1; top >= 0 && rankOf(held[top]) >= rank; top--) {
      emit(held[top]);
      heldCount = top;
    }
  }

  private void emit(int token) {
    if (codeLength < MAX_CHARS) {
      code[codeLength] = token;
      codeLength++;
    }
  }

  // ---- running ----

  private void runLoop(int fuel) {
    int outcome = GOING;
    for (int used = 0; used < fuel && outcome == GOING && position < lineTotal; used++) {
      int line = programOrder[position];
      stopLine = lineNumber[line];
      steps++;
      outcome = execute(line);
    }
    if (outcome == GOING && position < lineTotal) {
      outcome = ST_OUT_OF_FUEL;
      stopLine = lineNumber[programOrder[position]];
    } else if (outcome == GOING) {
      outcome = ST_HALTED;
      stopLine = NONE;
    }
    status = outcome;
  }

  /** Answers GOING with the position moved on, or the status that the run stops with. */
  private int execute(int line) {
    dividedByZero = false;
    switch (lineKeyword[line]) {
      case LET: return executeLet(line);
      case PRINT: return executePrint(line);
      case IF: return executeIf(line);
      case GOTO: return executeGoto(line);
      case GOSUB: return executeGosub(line);
      case RETURN: return executeReturn();
      case FOR: return executeFor(line);
      case NEXT: return executeNext(line);
      default: return ST_HALTED;
    }
  }

  private int executeLet(int line) {
    int value = evaluate(line * SLOTS);
    if (dividedByZero) {
      return ERR_DIV_ZERO;
    }
    variables[lineVariable[line]] = value;
    position++;
    return GOING;
  }

  private int executePrint(int line) {
    int value = evaluate(line * SLOTS);
    if (dividedByZero) {
      return ERR_DIV_ZERO;
    }
    if (outputCount >= outCap) {
      return ERR_OUTPUT_FULL;
    }
    output[outputCount] = value;
    outputCount++;
    position++;
    return GOING;
  }

  private int executeIf(int line) {
    int slot = line * SLOTS;
    int left = evaluate(slot);
    int right = evaluate(slot + 1);
    if (dividedByZero) {
      return ERR_DIV_ZERO;
    }
    if (!holds(lineRelation[line], left, right)) {
      position++;
      return GOING;
    }
    int number = evaluate(slot + 2);
    return jumpTo(number);
  }

  private static boolean holds(int relation, int left, int right) {
    switch (relation) {
      case EQUAL: return left == right;
      case UNEQUAL: return left != right;
      case LESS: return left < right;
      case GREATER: return left > right;
      case AT_MOST: return left <= right;
      default: return left >= right;
    }
  }

  private int executeGoto(int line) {
    int number = evaluate(line * SLOTS);
    return jumpTo(number);
  }

  /** Jumps to the line whose number was evaluated last. */
  private int jumpTo(int number) {
    if (dividedByZero) {
      return ERR_DIV_ZERO;
    }
    int target = findLine(number);
    if (target == NONE) {
      return ERR_UNDEFINED_LINE;
    }
    position = target;
    return GOING;
  }

  private int executeGosub(int line) {
    int number = evaluate(line * SLOTS);
    if (dividedByZero) {
      return ERR_DIV_ZERO;
    }
    int target = findLine(number);
    if (target == NONE) {
      return ERR_UNDEFINED_LINE;
    }
    if (gosubCount >= gosubDepth) {
      return ERR_GOSUB_OVERFLOW;
    }
    returnTo[gosubCount] = position + 1;
    gosubCount++;
    position = target;
    return GOING;
  }

  private int executeReturn() {
    if (gosubCount == 0) {
      return ERR_RETURN_WITHOUT_GOSUB;
    }
    gosubCount--;
    position = returnTo[gosubCount];
    return GOING;
  }

  private int executeFor(int line) {
    int slot = line * SLOTS;
    int first = evaluate(slot);
    int limit = evaluate(slot + 1);
    if (dividedByZero) {
      return ERR_DIV_ZERO;
    }
    int v = lineVariable[line];
    int frame = findFrame(v);
    int kept = frame == NONE ? frameCount : frame;
    if (kept >= forDepth) {
      return ERR_FOR_OVERFLOW;
    }
    variables[v] = first;
    position++;
    frameVariable[kept] = v;
    frameLimit[kept] = limit;
    frameBody[kept] = position;
    frameCount = kept + 1;
    return GOING;
  }

  private int executeNext(int line) {
    int v = lineVariable[line];
    int frame = findFrame(v);
    if (frame == NONE) {
      return ERR_NEXT_WITHOUT_FOR;
    }
    variables[v]++;
    if (variables[v] <= frameLimit[frame]) {
      frameCount = frame + 1;
      position = frameBody[frame];
    } else {
      frameCount = frame;
      position++;
    }
    return GOING;
  }

  private int findFrame(int v) {
    for (int frame = 0; frame < frameCount; frame++) {
      if (frameVariable[frame] == v) {
        return frame;
      }
    }
    return NONE;
  }

  /** Answers the place in program order of the line with this number, or NONE. */
  private int findLine(int number) {
    for (int place = 0; place < lineTotal; place++) {
      if (lineNumber[programOrder[place]] == number) {
        return place;
      }
    }
    return NONE;
  }

  /** Answers the value of an expression; after a division by 0 the answer means nothing. */
  private int evaluate(int slot) {
    int end = codeEnd[slot];
    int count = 0;
    for (int at = codeStart[slot]; at < end && !dividedByZero; at++) {
      int token = code[at];
      if (isNumber(token) && count < MAX_LINE_LEN) {
        operands[count] = token;
        count++;
      } else if (isVariable(token) && count < MAX_LINE_LEN) {
        operands[count] = variables[token - VAR_A];
        count++;
      } else if (token == NEGATE && count > 0) {
        operands[count - 1] = -operands[count - 1];
      } else if (count > 1) {
        count--;
        operands[count - 1] = combine(token, operands[count - 1], operands[count]);
      }
    }
    return operands[0];
  }

  private int combine(int operator, int left, int right) {
    switch (operator) {
      case PLUS: return left + right;
      case MINUS: return left - right;
      case TIMES: return left * right;
      default: break;
    }
    if (right == 0) {
      dividedByZero = true;
      return 0;
    }
    return left / right;
  }
}
