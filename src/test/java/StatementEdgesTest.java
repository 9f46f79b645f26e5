/** The boundary sentences of "The language" about values, jumps, statements, the run loop and clamping, one method each. */
public final class StatementEdgesTest {
  private static final int HALTED = TinyBasicVm.ST_HALTED;
  private static final int FUEL = TinyBasicVm.ST_OUT_OF_FUEL;
  private static final int UNDEFINED = TinyBasicVm.ERR_UNDEFINED_LINE;
  private static final int NO_GOSUB = TinyBasicVm.ERR_RETURN_WITHOUT_GOSUB;
  private static final int NO_FOR = TinyBasicVm.ERR_NEXT_WITHOUT_FOR;
  private static final int DIV_ZERO = TinyBasicVm.ERR_DIV_ZERO;
  private static final int DEEP_GOSUB = TinyBasicVm.ERR_GOSUB_OVERFLOW;
  private static final int DEEP_FOR = TinyBasicVm.ERR_FOR_OVERFLOW;
  private static final int FULL = TinyBasicVm.ERR_OUTPUT_FULL;
  private static final int MIN = Integer.MIN_VALUE;
  private static final int MAX = Integer.MAX_VALUE;

  // Line 1 gives M the least int and line 2 gives X the greatest one.
  private static final String EXTREMES = "1LET M=32767*32767*2+32767*4+2\n2LET X=M-1\n";

  public static void main(String[] args) {
    wrapping();
    truncation();
    leastByMinusOne();
    divisionByZero();
    jumpToALine();
    jumpToNoLine();
    errorChangesNothing();
    printIntoFullOutput();
    printIntoTheLastRoom();
    conditionIsSigned();
    conditionFalse();
    conditionTrue();
    gosubUndefinedFirst();
    gosubOverflow();
    gosubOnTheLastLine();
    returnWithoutGosub();
    returnToTheTopEntry();
    forWithFullStack();
    forKeepsTheLowestFrames();
    forRunsItsBodyOnce();
    forOnTheLastLine();
    nextWithoutFor();
    nextDropsFramesAbove();
    nextWraps();
    nextComparesWithTheLimit();
    nextPopsItsFrame();
    endStops();
    stacksAreIndependent();
    divisionByZeroFirst();
    unevaluatedTarget();
    endOfProgramBeforeFuel();
    fuelUsedUp();
    everyStatementIsAStep();
    resetOfTheRunState();
    clamping();
    Check.finish();
  }

  /** The value of an expression in which M is the least int and X the greatest one. */
  private static void value(String expression, int value) {
    Check.dueRun(EXTREMES + "3PRINT " + expression, HALTED, -1, 3, "" + value);
  }

  private static TinyBasicVm vm(int gosubDepth, int forDepth, int outCap) {
    return new TinyBasicVm(gosubDepth, forDepth, outCap);
  }

  // ---- values ----

  private static void wrapping() {
    Check.sentence("`+`, `-`, `*` and unary minus wrap as Java int does.");
    value("M", MIN);
    value("X", MAX);
    value("X+1", MIN);
    value("1+X", MIN);
    value("X+X", -2);
    value("M+M", 0);
    value("M-1", MAX);
    value("-1-X", MIN);
    value("-2-X", MAX);
    value("0-M", MIN);
    value("X-M", -1);
    value("X*2", -2);
    value("M*2", 0);
    value("M*-1", MIN);
    value("M*M", 0);
    value("X*X", 1);
    value("X*M", MIN);
    value("-M", MIN);
    value("--M", MIN);
    value("-X", -MAX);
    value("-X-1", MIN);
    value("32767*32767*32767", 32767 * 32767 * 32767);
    value("32767*32767*4", 32767 * 32767 * 4);
  }

  private static void truncation() {
    Check.sentence("`x / y` with `y != 0` is Java int division: it truncates toward zero");
    value("7/2", 3);
    value("-7/2", -3);
    value("7/-2", -3);
    value("-7/-2", 3);
    value("1/2", 0);
    value("-1/2", 0);
    value("1/-2", 0);
    value("X/X", 1);
    value("M/M", 1);
    value("X/M", 0);
    value("M/X", -1);
    value("M/2", MIN / 2);
    value("M/3", MIN / 3);
    value("X/-1", -MAX);
    value("M/1", MIN);
    value("(M+1)/2", (MIN + 1) / 2);
    value("0/M", 0);
  }

  private static void leastByMinusOne() {
    Check.sentence("-2147483648 / -1 = -2147483648");
    value("M/-1", MIN);
    value("M/(0-1)", MIN);
    value("M/-1/-1", MIN);
    value("(X+1)/(X/-X)", MIN);
  }

  private static void divisionByZero() {
    Check.sentence("Division by 0 is the error ERR_DIV_ZERO.");
    for (String zero : new String[] {"1/0", "0/0", "-1/0", "M/0", "X/0", "5/A", "5/(3-3)", "5/-0", "1/0*0", "0*(1/0)", "1/(1/2)"}) {
      Check.dueRun(EXTREMES + "3PRINT " + zero, DIV_ZERO, 3, 3, "");
      TinyBasicVm vm = Check.dueRun(EXTREMES + "3LET M=" + zero, DIV_ZERO, 3, 3, "");
      Check.due("M after LET M=" + zero, vm.getVar(12), MIN);
    }
    value("0/1", 0);
    value("0/-1", 0);
  }

  // ---- jumps ----

  private static void jumpToALine() {
    Check.sentence("Jump to t. Continue at the line whose number equals t.");
    Check.dueRun("1GOTO 32767\n2PRINT 2\n32767END", HALTED, 32767, 2, "");
    Check.dueRun("9GOTO 1\n1PRINT 1\n2IF A=1THEN 32767\n3LET A=1\n4GOTO 9\n32767END", HALTED, 32767, 8, "1 1");
    TinyBasicVm vm = Check.compiled("7GOTO 7");
    vm.run(1000);
    Check.dueStop("a jump to itself", vm, FUEL, 7, 1000);
    Check.dueRun("1LET A=3\n2GOTO A*10+A\n32PRINT 2\n33PRINT 3\n34PRINT 4", HALTED, -1, 4, "3 4");
  }

  private static void jumpToNoLine() {
    Check.sentence("If no such line exists, the result is ERR_UNDEFINED_LINE.");
    String[] nowhere = {
      "0", "-1", "1-2", "2", "9", "11", "15", "19", "21", "32767", "32767+1", "32767*2", "32767*2+2+10", "-10", "M", "M-1", "M+10"
    };
    for (String target : nowhere) {
      for (String jump : new String[] {"GOTO ", "GOSUB ", "IF 1=1THEN "}) {
        TinyBasicVm vm = Check.dueRun("1LET M=32767*32767*2+32767*4+2\n10" + jump + target + "\n20END", UNDEFINED, 10, 2, "");
        Check.dueStacks("after " + jump + target, vm, 0, 0);
      }
    }
  }

  // ---- statements ----

  private static void errorChangesNothing() {
    Check.sentence("A statement that ends in an error changes no variable, output or stack. .. the stop line is that line.");
    String before = "1LET C=7\n2PRINT 5\n3FOR A=3TO 4\n4FOR B=1TO 2\n5GOSUB 6\n";
    unchanged(before + "6LET C=1/0", DIV_ZERO);
    unchanged(before + "6PRINT 1/0", DIV_ZERO);
    unchanged(before + "6PRINT 9", FULL);
    unchanged(before + "6IF 1/0=C THEN 1", DIV_ZERO);
    unchanged(before + "6IF C=1/0THEN 1", DIV_ZERO);
    unchanged(before + "6IF C=7THEN 1/0", DIV_ZERO);
    unchanged(before + "6IF C=7THEN 8", UNDEFINED);
    unchanged(before + "6GOTO 1/0", DIV_ZERO);
    unchanged(before + "6GOTO C", UNDEFINED);
    unchanged(before + "6GOSUB 1/0", DIV_ZERO);
    unchanged(before + "6GOSUB C", UNDEFINED);
    unchanged(before + "6GOSUB 1", DEEP_GOSUB);
    unchanged(before + "6FOR C=1/0TO 2", DIV_ZERO);
    unchanged(before + "6FOR C=1TO 2/0", DIV_ZERO);
    unchanged(before + "6FOR A=1TO 2/0", DIV_ZERO);
    unchanged(before + "6FOR C=1TO 2", DEEP_FOR);
    unchanged(before + "6NEXT C", NO_FOR);
    TinyBasicVm vm = Check.dueRun(vm(1, 2, 1), before.replace("5GOSUB 6", "5LET D=0") + "6RETURN", NO_GOSUB, 6, 6, "5");
    Check.dueStacks("after a failed RETURN", vm, 0, 2);
  }

  /** Line 6 fails, with all three capacities used up by the lines before it. */
  private static void unchanged(String text, int status) {
    TinyBasicVm vm = Check.compiled(vm(1, 2, 1), text);
    vm.run(5);
    String before = Check.runState(vm).replaceAll("status \\d+ stop -?\\d+ steps \\d+", "");
    Check.due("cont of " + Check.quote(text), vm.cont(1), status);
    Check.dueStop(Check.quote(text), vm, status, 6, 6);
    Check.due("the rest", Check.runState(vm).replaceAll("status \\d+ stop -?\\d+ steps \\d+", ""), before);
  }

  private static void printIntoFullOutput() {
    Check.sentence("PRINT: If the output already holds outCap values, the result is ERR_OUTPUT_FULL.");
    for (int outCap = 1; outCap <= 32; outCap++) {
      TinyBasicVm vm = Check.compiled(vm(1, 1, outCap), "1LET A=A+1\n2PRINT A*3\n3GOTO 1");
      Check.due("one value more", vm.run(3 * outCap + 2), FULL);
      Check.dueStop("one value more", vm, FULL, 2, 3 * outCap + 2);
      Check.due("values when full", vm.getOutputCount(), outCap);
      Check.due("the last value when full", vm.getOutput(outCap - 1), outCap * 3);
      Check.due("the first value when full", vm.getOutput(0), 3);
    }
  }

  private static void printIntoTheLastRoom() {
    Check.sentence("PRINT: Otherwise append the value and go to the line after.");
    for (int outCap = 1; outCap <= 32; outCap++) {
      TinyBasicVm vm = Check.compiled(vm(1, 1, outCap), "1LET A=A+1\n2PRINT A*3\n3GOTO 1");
      Check.due("the last value that has room", vm.run(3 * outCap - 1), FUEL);
      Check.dueStop("the last value that has room", vm, FUEL, 3, 3 * outCap - 1);
      Check.due("values", vm.getOutputCount(), outCap);
      Check.due("the last value", vm.getOutput(outCap - 1), outCap * 3);
    }
    Check.dueRun(vm(1, 1, 1), "1PRINT 7", HALTED, -1, 1, "7");
  }

  private static void conditionIsSigned() {
    Check.sentence("IF: evaluate a, then b, and compare them as signed values.");
    String[] names = {"M", "M+1", "-1", "0", "1", "X-1", "X"};
    int[] values = {MIN, MIN + 1, -1, 0, 1, MAX - 1, MAX};
    for (int a = 0; a < names.length; a++) {
      for (int b = 0; b < names.length; b++) {
        condition(names[a] + "=" + names[b], values[a] == values[b]);
        condition(names[a] + "<>" + names[b], values[a] != values[b]);
        condition(names[a] + "<" + names[b], values[a] < values[b]);
        condition(names[a] + ">" + names[b], values[a] > values[b]);
        condition(names[a] + "<=" + names[b], values[a] <= values[b]);
        condition(names[a] + ">=" + names[b], values[a] >= values[b]);
      }
    }
  }

  private static void condition(String condition, boolean holds) {
    Check.dueRun(EXTREMES + "3IF " + condition + " THEN 5\n4PRINT 4\n5END", HALTED, 5, holds ? 4 : 5, holds ? "" : "4");
  }

  private static void conditionFalse() {
    Check.sentence("IF: If false, go to the line after.");
    Check.dueRun("1IF 1=2THEN 1", HALTED, -1, 1, "");
    Check.dueRun("1IF 1=2THEN 3\n2PRINT 2\n3END", HALTED, 3, 3, "2");
  }

  private static void conditionTrue() {
    Check.sentence("IF: If true, evaluate t and jump to t.");
    Check.dueRun("1IF 1=1THEN 3\n2PRINT 2\n3END", HALTED, 3, 2, "");
    Check.dueRun("1LET A=A+1\n2IF A<3THEN A-A+1\n3PRINT A", HALTED, -1, 7, "3");
    Check.dueRun("1IF 1=1THEN 2-3\n2END", UNDEFINED, 1, 1, "");
  }

  private static void gosubUndefinedFirst() {
    Check.sentence("GOSUB: If no line has number t, the result is ERR_UNDEFINED_LINE.");
    for (int depth = 1; depth <= 8; depth++) {
      String text = "1LET A=A+1\n2IF A>" + depth + "THEN 4\n3GOSUB 1\n4GOSUB 5";
      TinyBasicVm vm = Check.dueRun(vm(depth, 1, 1), text, UNDEFINED, 4, 3 * depth + 3, "");
      Check.dueStacks("a full stack and no such line", vm, depth, 0);
    }
    Check.dueRun("1GOSUB 2", UNDEFINED, 1, 1, "");
  }

  private static void gosubOverflow() {
    Check.sentence("Else, if the GOSUB stack holds gosubDepth entries, the result is ERR_GOSUB_OVERFLOW.");
    for (int depth = 1; depth <= 8; depth++) {
      TinyBasicVm vm = Check.compiled(vm(depth, 1, 1), "1GOSUB 1");
      Check.due("the last entry that has room", vm.run(depth), FUEL);
      Check.dueStacks("the last entry that has room", vm, depth, 0);
      Check.due("one entry more", vm.cont(1), DEEP_GOSUB);
      Check.dueStop("one entry more", vm, DEEP_GOSUB, 1, depth + 1);
      Check.dueStacks("one entry more", vm, depth, 0);
    }
    // A stack that was full takes entries again after a RETURN.
    Check.dueRun(vm(1, 1, 9), "1GOSUB 5\n2GOSUB 5\n3GOSUB 5\n4END\n5PRINT 5\n6RETURN", HALTED, 4, 10, "5 5 5");
  }

  private static void gosubOnTheLastLine() {
    Check.sentence("Else push \"the line after\" (it may be END-OF-PROGRAM) and jump to t.");
    Check.dueRun("1IF A=1THEN 3\n2GOTO 4\n3RETURN\n4LET A=1\n5GOSUB 1", HALTED, -1, 6, "");
    TinyBasicVm vm = Check.compiled("1GOTO 3\n2RETURN\n3GOSUB 2");
    Check.due("run up to RETURN", vm.run(2), FUEL);
    Check.dueStop("run up to RETURN", vm, FUEL, 2, 2);
    Check.dueStacks("run up to RETURN", vm, 1, 0);
    Check.due("RETURN to END-OF-PROGRAM", vm.cont(1), HALTED);
    Check.dueStop("RETURN to END-OF-PROGRAM", vm, HALTED, -1, 3);
    Check.dueStacks("RETURN to END-OF-PROGRAM", vm, 0, 0);
    // The line after is the next one by number, not by text.
    Check.dueRun("9RETURN\n1GOSUB 9\n5END\n3PRINT 3", HALTED, 5, 4, "3");
  }

  private static void returnWithoutGosub() {
    Check.sentence("RETURN: if the GOSUB stack is empty, the result is ERR_RETURN_WITHOUT_GOSUB.");
    Check.dueRun("1RETURN", NO_GOSUB, 1, 1, "");
    Check.dueRun("1GOSUB 2\n2RETURN", NO_GOSUB, 2, 3, "");
    Check.dueRun("1FOR A=1TO 2\n2RETURN", NO_GOSUB, 2, 2, "");
    Check.dueRun("1GOSUB 3\n2RETURN\n3GOSUB 4\n4RETURN", NO_GOSUB, 2, 5, "");
  }

  private static void returnToTheTopEntry() {
    Check.sentence("Else pop the top entry and continue there.");
    TinyBasicVm vm = Check.dueRun("1GOSUB 4\n2PRINT 2\n3END\n4GOSUB 7\n5PRINT 5\n6RETURN\n7RETURN", HALTED, 3, 7, "5 2");
    Check.dueStacks("all entries popped", vm, 0, 0);
    vm = Check.compiled("1LET A=A+1\n2IF A=9THEN 4\n3GOSUB 1\n4RETURN");
    Check.due("eight deep and back", vm.run(1000), NO_GOSUB);
    Check.dueStop("eight deep and back", vm, NO_GOSUB, 4, 35);
  }

  // ---- loops ----

  private static String fors(int count) {
    StringBuilder text = new StringBuilder();
    for (int i = 0; i < count; i++) {
      text.append(i + 1).append("FOR ").append((char) ('A' + i)).append("=1TO 2\n");
    }
    return text.toString();
  }

  private static void forWithFullStack() {
    Check.sentence("FOR: If k == forDepth, the result is ERR_FOR_OVERFLOW.");
    for (int depth = 1; depth <= 8; depth++) {
      TinyBasicVm vm = Check.dueRun(vm(1, depth, 1), fors(depth), HALTED, -1, depth, "");
      Check.dueStacks("the last frame that has room", vm, 0, depth);
      vm = Check.dueRun(vm(1, depth, 1), fors(depth) + "20FOR Z=5TO 6\n", DEEP_FOR, 20, depth + 1, "");
      Check.dueStacks("one frame more", vm, 0, depth);
      Check.due("Z after a failed FOR", vm.getVar(25), 0);
      // With all frames there, a FOR of any variable that has one is no overflow.
      for (int v = 0; v < depth; v++) {
        vm = Check.dueRun(vm(1, depth, 1), fors(depth) + "20FOR " + (char) ('A' + v) + "=5TO 6\n", HALTED, -1, depth + 1, "");
        Check.dueStacks("FOR of frame " + v, vm, 0, v + 1);
        Check.due("its variable", vm.getVar(v), 5);
      }
    }
  }

  private static void forKeepsTheLowestFrames() {
    Check.sentence("FOR: keep only the lowest k frames, set v := a, push frame (v, limit b, body = the line after)");
    // The frames of B and C are gone, that of A stays with its own limit and body.
    Check.dueRun("1FOR A=1TO 2\n2FOR B=1TO 9\n3FOR C=1TO 9\n4FOR B=7TO 7\n5PRINT B\n6NEXT C", NO_FOR, 6, 6, "7");
    TinyBasicVm vm = Check.dueRun("1FOR A=1TO 2\n2FOR B=1TO 9\n4FOR B=7TO 7\n5PRINT B\n6NEXT B\n7NEXT A", HALTED, -1, 11, "7 7");
    Check.dueStacks("all loops done", vm, 0, 0);
    Check.dueRun("1FOR A=1TO 9\n2FOR A=5TO 6\n3PRINT A\n4NEXT A\n5NEXT A", NO_FOR, 5, 7, "5 6");
    // a and b are both worked out with the variable as it was.
    Check.dueRun("1LET A=4\n2FOR A=A+1TO A+2\n3PRINT A\n4NEXT A", HALTED, -1, 6, "5 6");
    // The limit is kept as it was.
    Check.dueRun("1LET L=2\n2FOR A=1TO L\n3LET L=9\n4PRINT A\n5NEXT A", HALTED, -1, 8, "1 2");
  }

  private static void forRunsItsBodyOnce() {
    Check.sentence("The body always runs at least once.");
    Check.dueRun("1FOR A=2TO 1\n2PRINT A\n3NEXT A\n4PRINT A", HALTED, -1, 4, "2 3");
    Check.dueRun("1FOR A=1TO 1\n2PRINT A\n3NEXT A\n4PRINT A", HALTED, -1, 4, "1 2");
    Check.dueRun("1FOR A=0TO -32767\n2PRINT A\n3NEXT A", HALTED, -1, 3, "0");
    Check.dueRun(EXTREMES + "3FOR A=0TO M\n4PRINT A\n5NEXT A", HALTED, -1, 5, "0");
  }

  private static void forOnTheLastLine() {
    Check.sentence("FOR on the last line: body = the line after, which is END-OF-PROGRAM");
    TinyBasicVm vm = Check.dueRun("1GOTO 3\n2NEXT A\n3FOR A=6TO 9", HALTED, -1, 2, "");
    Check.dueStacks("FOR on the last line", vm, 0, 1);
    Check.due("A", vm.getVar(0), 6);
    Check.due("cont after it", vm.cont(9), TinyBasicVm.REFUSED);
    vm = Check.dueRun("1FOR A=1TO 2", HALTED, -1, 1, "");
    Check.dueStacks("FOR as the only line", vm, 0, 1);
  }

  private static void nextWithoutFor() {
    Check.sentence("NEXT: if no frame of v exists, the result is ERR_NEXT_WITHOUT_FOR.");
    Check.dueRun("1NEXT A", NO_FOR, 1, 1, "");
    Check.dueRun("1FOR A=1TO 1\n2NEXT A\n3NEXT A", NO_FOR, 3, 3, "");
    TinyBasicVm vm = Check.dueRun("1LET C=3\n2FOR A=1TO 9\n3FOR B=1TO 9\n4NEXT C", NO_FOR, 4, 4, "");
    Check.dueStacks("a failed NEXT", vm, 0, 2);
    Check.due("C after a failed NEXT", vm.getVar(2), 3);
    Check.dueRun("1GOSUB 2\n2NEXT Z", NO_FOR, 2, 2, "");
  }

  private static void nextDropsFramesAbove() {
    Check.sentence("NEXT: Else drop all frames above it");
    for (int v = 0; v < 8; v++) {
      String next = "20NEXT " + (char) ('A' + v);
      TinyBasicVm vm = Check.compiled(fors(8) + next);
      vm.run(9);
      Check.dueStacks(next + ", the loop goes on", vm, 0, v + 1);
      vm = Check.compiled(fors(8).replace("=1TO 2", "=2TO 2") + next);
      vm.run(9);
      Check.dueStacks(next + ", the loop ends", vm, 0, v);
    }
    Check.dueRun("1FOR A=1TO 1\n2FOR B=1TO 5\n3NEXT A\n4NEXT B", NO_FOR, 4, 4, "");
    Check.dueRun("1FOR A=1TO 2\n2IF A=2THEN 5\n3FOR B=1TO 5\n4NEXT A\n5NEXT B", NO_FOR, 5, 6, "");
  }

  private static void nextWraps() {
    Check.sentence("NEXT: set v := v + 1 (wrapping)");
    TinyBasicVm vm = Check.dueRun(EXTREMES + "3FOR A=X TO X\n4PRINT A\n5IF A<0THEN 7\n6NEXT A\n7END", HALTED, 7, 9, MAX + " " + MIN);
    Check.dueStacks("the loop goes on from the least int", vm, 0, 1);
    vm = Check.dueRun(EXTREMES + "3FOR A=X TO M\n4PRINT A\n5NEXT A", HALTED, -1, 7, MAX + " " + MIN);
    Check.due("A one above the least int", vm.getVar(0), MIN + 1);
    Check.dueRun(EXTREMES + "3FOR A=X-1TO X\n4PRINT A\n5IF A<0THEN 7\n6NEXT A\n7END", HALTED, 7, 12, (MAX - 1) + " " + MAX + " " + MIN);
  }

  private static void nextComparesWithTheLimit() {
    Check.sentence("NEXT: If v <= limit (signed), continue at the frame's body");
    Check.dueRun("1FOR A=1TO 2\n2PRINT A\n3NEXT A\n4PRINT A", HALTED, -1, 6, "1 2 3");
    Check.dueRun("1FOR A=-2TO -1\n2PRINT A\n3NEXT A\n4PRINT A", HALTED, -1, 6, "-2 -1 0");
    Check.dueRun("1FOR A=-1TO 0\n2PRINT A\n3NEXT A\n4PRINT A", HALTED, -1, 6, "-1 0 1");
    Check.dueRun(EXTREMES + "3FOR A=M TO M+1\n4PRINT A\n5NEXT A", HALTED, -1, 7, MIN + " " + (MIN + 1));
    Check.dueRun(EXTREMES + "3FOR A=M TO M\n4PRINT A\n5NEXT A", HALTED, -1, 5, "" + MIN);
    // The difference of variable and limit does not fit an int here.
    Check.dueRun(EXTREMES + "3FOR A=X-1TO M\n4PRINT A\n5NEXT A", HALTED, -1, 5, "" + (MAX - 1));
    Check.dueRun(EXTREMES + "3FOR A=M TO X\n4PRINT A\n5LET A=X-1\n6NEXT A", FULL, 4, 100, MIN + (" " + MAX).repeat(31));
    Check.dueRun("1FOR A=1TO 9\n2PRINT A\n3LET A=A+4\n4NEXT A", HALTED, -1, 7, "1 6");
  }

  private static void nextPopsItsFrame() {
    Check.sentence("NEXT: Else pop that frame and go to the line after.");
    TinyBasicVm vm = Check.dueRun("1FOR A=1TO 1\n2FOR B=1TO 1\n3NEXT B\n4PRINT A\n5NEXT A", HALTED, -1, 5, "1");
    Check.dueStacks("both frames popped", vm, 0, 0);
    // The line after NEXT, not the line after FOR.
    Check.dueRun("5NEXT A\n6PRINT 6\n7END\n1FOR A=1TO 1\n2PRINT 2", HALTED, 7, 5, "2 6");
  }

  private static void endStops() {
    Check.sentence("END: status ST_HALTED; the stop line is this line; the run stops.");
    Check.dueRun("1END\n2PRINT 2", HALTED, 1, 1, "");
    Check.dueRun("1PRINT 1\n32767END", HALTED, 32767, 2, "1");
    TinyBasicVm vm = Check.dueRun("1GOSUB 2\n2FOR A=1TO 2\n3END\n4PRINT 4", HALTED, 3, 3, "");
    Check.dueStacks("END with entries on both stacks", vm, 1, 1);
    Check.due("cont after END", vm.cont(9), TinyBasicVm.REFUSED);
  }

  private static void stacksAreIndependent() {
    Check.sentence("The GOSUB stack and the FOR stack are independent of each other.");
    TinyBasicVm vm = Check.dueRun(vm(8, 8, 1), fors(8) + "20GOSUB 20", DEEP_GOSUB, 20, 17, "");
    Check.dueStacks("both stacks full", vm, 8, 8);
    vm = Check.dueRun("1GOSUB 4\n2NEXT A\n3END\n4FOR A=1TO 1\n5RETURN", HALTED, 3, 5, "");
    Check.dueStacks("a loop begun in a subroutine and ended outside", vm, 0, 0);
    vm = Check.dueRun("1FOR A=1TO 3\n2GOSUB 3\n3NEXT A", HALTED, -1, 7, "");
    Check.dueStacks("subroutines that never return", vm, 3, 0);
  }

  private static void divisionByZeroFirst() {
    Check.sentence("Any evaluation that divides by 0 ends the statement with ERR_DIV_ZERO before any other outcome");
    Check.dueRun(vm(1, 1, 1), "1PRINT 1\n2PRINT 1/0", DIV_ZERO, 2, 2, "1");
    Check.dueRun(vm(1, 1, 1), "1GOSUB 2\n2GOSUB 1/0", DIV_ZERO, 2, 2, "");
    Check.dueRun(vm(1, 1, 1), "1FOR A=1TO 1\n2FOR B=1/0TO 1", DIV_ZERO, 2, 2, "");
    Check.dueRun(vm(1, 1, 1), "1FOR A=1TO 1\n2FOR B=1TO 1/0", DIV_ZERO, 2, 2, "");
    Check.dueRun("1IF 1/0=1THEN 9", DIV_ZERO, 1, 1, "");
    Check.dueRun("1IF 1=1/0THEN 9", DIV_ZERO, 1, 1, "");
    Check.dueRun("1IF 1/0=2/0THEN 9", DIV_ZERO, 1, 1, "");
    Check.dueRun("1IF 1=1THEN 9+1/0", DIV_ZERO, 1, 1, "");
    Check.dueRun("1GOTO 9+1/0", DIV_ZERO, 1, 1, "");
    Check.dueRun("1GOTO 0*(1/0)+1", DIV_ZERO, 1, 1, "");
  }

  private static void unevaluatedTarget() {
    Check.sentence("the t of an IF whose comparison is false is not evaluated and cannot fail");
    Check.dueRun("1IF 1=2THEN 1/0\n2END", HALTED, 2, 2, "");
    Check.dueRun("1IF 1=2THEN 99\n2END", HALTED, 2, 2, "");
    Check.dueRun("1IF 1=2THEN 1/0", HALTED, -1, 1, "");
    // Whether it is evaluated is settled anew each time.
    Check.dueRun("1IF A=2THEN 1/0\n2LET A=A+1\n3GOTO 1", DIV_ZERO, 1, 7, "");
  }

  // ---- run loop ----

  private static void endOfProgramBeforeFuel() {
    Check.sentence("1. If the position is END-OF-PROGRAM: status ST_HALTED, stop line -1, stop.");
    String[] texts = {"1LET A=1", "5PRINT 1\n7IF 1=2THEN 5", "1LET A=1\n2LET A=2\n3FOR A=1TO 2", "1GOTO 3\n2RETURN\n3GOSUB 2"};
    int[] statements = {1, 2, 3, 3};
    for (int i = 0; i < texts.length; i++) {
      TinyBasicVm vm = Check.compiled(texts[i]);
      for (int fuel = statements[i]; fuel <= statements[i] + 2; fuel++) {
        Check.due("run(" + fuel + ") of " + Check.quote(texts[i]), vm.run(fuel), HALTED);
        Check.dueStop(Check.quote(texts[i]), vm, HALTED, -1, statements[i]);
      }
      if (statements[i] > 1) {
        vm.run(1);
        Check.due("cont that uses its fuel up", vm.cont(statements[i] - 1), HALTED);
        Check.dueStop(Check.quote(texts[i]), vm, HALTED, -1, statements[i]);
      }
    }
  }

  private static void fuelUsedUp() {
    Check.sentence("2. Else, if this call has already executed fuel statements: status ST_OUT_OF_FUEL, stop line = ..");
    TinyBasicVm vm = Check.compiled("10PRINT 1\n20GOTO 40\n30END\n40PRINT 2\n50END");
    int[] next = {20, 40, 50};
    for (int fuel = 1; fuel <= 3; fuel++) {
      Check.due("run(" + fuel + ")", vm.run(fuel), FUEL);
      Check.dueStop("run(" + fuel + ")", vm, FUEL, next[fuel - 1], fuel);
    }
    Check.due("run(4) executes END", vm.run(4), HALTED);
    Check.dueStop("run(4)", vm, HALTED, 50, 4);
    vm = Check.compiled("1PRINT 1\n2RETURN");
    Check.due("run(1) before the failing line", vm.run(1), FUEL);
    Check.due("run(2) executes the failing line", vm.run(2), NO_GOSUB);
    // The fuel is that of this call: a cont has its own.
    vm = Check.compiled("1GOTO 1");
    vm.run(1000);
    Check.due("cont(1)", vm.cont(1), FUEL);
    Check.dueStop("cont(1)", vm, FUEL, 1, 1001);
  }

  private static void everyStatementIsAStep() {
    Check.sentence("Every executed statement adds one to the step count, including END and statements that fail.");
    String[] single = {"LET A=1", "PRINT 1", "IF 1=2THEN 1", "FOR A=1TO 2", "END", "RETURN", "NEXT A", "GOTO 5", "GOSUB 5",
      "PRINT 1/0", "IF 1=1THEN 5"};
    for (String statement : single) {
      TinyBasicVm vm = Check.compiled("1" + statement);
      vm.run(9);
      Check.due("steps of " + statement, vm.getSteps(), 1);
    }
    Check.dueRun("1GOSUB 3\n2END\n3RETURN", HALTED, 2, 3, "");
    Check.dueRun("1FOR A=1TO 2\n2NEXT A", HALTED, -1, 3, "");
    Check.dueRun(vm(1, 1, 1), "1GOSUB 1", DEEP_GOSUB, 1, 2, "");
  }

  private static void resetOfTheRunState() {
    Check.sentence("\"Reset run state\" means: status ST_IDLE, stop line -1, steps 0, all variables 0, output empty, both stacks empty.");
    StringBuilder text = new StringBuilder();
    for (char v = 'A'; v <= 'Z'; v++) {
      text.setLength(0);
      text.append("1LET ").append(v).append("=5\n2PRINT 8\n3FOR A=1TO 3\n4GOSUB 2");
      TinyBasicVm vm = Check.compiled(text.toString());
      vm.run(11);
      Check.due("a run state that is far from reset", vm.getOutputCount() > 2 && vm.getStackDepth(0) > 1, true);
      vm.compile();
      Check.dueReset("after compile", vm);
      for (int i = 0; i < 32; i++) {
        Check.due("getOutput(" + i + ")", vm.getOutput(i), 0);
      }
    }
  }

  private static void clamping() {
    Check.sentence("a value below lo becomes lo; a value above hi becomes hi; any other value stays");
    for (int fuel = -3; fuel <= 1003; fuel++) {
      TinyBasicVm vm = Check.compiled("1GOTO 1");
      vm.run(fuel);
      Check.due("run(" + fuel + ")", vm.getSteps(), Math.max(1, Math.min(1000, fuel)));
    }
    for (int depth = -2; depth <= 11; depth++) {
      TinyBasicVm vm = Check.compiled(vm(depth, depth, depth), "1GOSUB 1");
      vm.run(100);
      Check.due("gosubDepth " + depth, vm.getStackDepth(0), Math.max(1, Math.min(8, depth)));
    }
  }
}
