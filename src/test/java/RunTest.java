/** Promise 7: values, jumps, every statement with its errors, and the run loop. */
public final class RunTest {
  private static final int HALTED = TinyBasicVm.ST_HALTED;
  private static final int FUEL = TinyBasicVm.ST_OUT_OF_FUEL;
  private static final int UNDEFINED = TinyBasicVm.ERR_UNDEFINED_LINE;
  private static final int NO_GOSUB = TinyBasicVm.ERR_RETURN_WITHOUT_GOSUB;
  private static final int NO_FOR = TinyBasicVm.ERR_NEXT_WITHOUT_FOR;
  private static final int DIV_ZERO = TinyBasicVm.ERR_DIV_ZERO;
  private static final int DEEP_GOSUB = TinyBasicVm.ERR_GOSUB_OVERFLOW;
  private static final int DEEP_FOR = TinyBasicVm.ERR_FOR_OVERFLOW;
  private static final int FULL = TinyBasicVm.ERR_OUTPUT_FULL;

  public static void main(String[] args) {
    refusals();
    fuelIsClamped();
    emptyProgram();
    values();
    wrapping();
    divisionByZero();
    printing();
    conditions();
    jumps();
    subroutines();
    loops();
    loopFrames();
    endings();
    eachRunStartsAfresh();
    Check.finish();
  }

  private static TinyBasicVm due(String text, int status, int stopLine, int steps, String output) {
    return Check.dueRun(text, status, stopLine, steps, output);
  }

  private static TinyBasicVm due(TinyBasicVm vm, String text, int status, int stopLine, int steps, String output) {
    return Check.dueRun(vm, text, status, stopLine, steps, output);
  }

  private static void refusals() {
    TinyBasicVm vm = Check.loaded("1 LET A=5");
    Check.due("run before compile", vm.run(5), TinyBasicVm.REFUSED);
    vm.compile();
    Check.due("run after compile", vm.run(5), HALTED);
    vm.put(10, 0, 0, 0);
    Check.due("run after put", vm.run(5), TinyBasicVm.REFUSED);
    Check.dueReset("after a refused run", vm);
    vm.compile();
    vm.clear();
    Check.due("run after clear", vm.run(5), TinyBasicVm.REFUSED);
    Check.load(vm, "1 OOPS");
    vm.compile();
    Check.due("run after a failed compile", vm.run(5), TinyBasicVm.REFUSED);
    Check.due("error line after a refused run", vm.getCompileErrorLine(), 1);
  }

  private static void fuelIsClamped() {
    int[] fuels = {Integer.MIN_VALUE, -1, 0, 1, 2, 999, 1000, 1001, 5000, Integer.MAX_VALUE};
    TinyBasicVm vm = Check.compiled("7 GOTO 7");
    for (int fuel : fuels) {
      Check.due("run(" + fuel + ")", vm.run(fuel), FUEL);
      Check.due("steps of run(" + fuel + ")", vm.getSteps(), Math.max(1, Math.min(1000, fuel)));
      Check.due("stop line of run(" + fuel + ")", vm.getStopLine(), 7);
    }
  }

  private static void emptyProgram() {
    due("", HALTED, -1, 0, "");
    TinyBasicVm vm = due(" \n\n ", HALTED, -1, 0, "");
    Check.due("run again", vm.run(-5), HALTED);
    Check.due("cont of an empty program", vm.cont(5), TinyBasicVm.REFUSED);
  }

  private static void value(String expression, int value) {
    due("1 PRINT " + expression, HALTED, -1, 1, "" + value);
  }

  private static void values() {
    value("1+2*3", 7);
    value("(1+2)*3", 9);
    value("2*3+1", 7);
    value("10-3-2", 5);
    value("10-(3-2)", 9);
    value("100/10/5", 2);
    value("100/(10/5)", 50);
    value("2*7/4", 3);
    value("7/4*2", 2);
    value("1-2+3", 2);
    value("1-2*3-4", -9);
    value("12/5*5+12-12/5*5", 12);
    value("-3", -3);
    value("--3", 3);
    value("---3", -3);
    value("-2*3", -6);
    value("2*-3", -6);
    value("2--3", 5);
    value("-2-3", -5);
    value("-(2+3)", -5);
    value("-(-(4))", 4);
    value("6/-3", -2);
    value("-7/2", -3);
    value("7/-2", -3);
    value("-7/-2", 3);
    value("0/5", 0);
    value("1/2", 0);
    value("-1/2", 0);
    value("((((1))))+((2))", 3);
    value("2*(3+4)*(5-6)", -14);
    value("1+(2+(3+(4+(5+(6+7)))))", 28);
    value("1-(2-(3-(4-(5-(6-7)))))", 4);
    value("Z", 0);
    value("-A", 0);
    due("1 LET A=3\n2 LET B=A*A\n3 LET A=B-A*2\n4 PRINT A*10+B", HALTED, -1, 4, "39");
  }

  private static void wrapping() {
    String min = "1LET A=32767*32767*2+32767*4+2\n2LET M=-A\n";
    TinyBasicVm vm = Check.compiled("1LET A=32767*32767*2+32767*4+2\n2PRINT A\n3PRINT -A\n4PRINT A+A\n5PRINT A-1");
    vm.run(9);
    int top = 32767 * 32767 * 2 + 32767 * 4 + 2;
    Check.due("the least int is at hand", top, Integer.MIN_VALUE);
    Check.due("wrapping", Check.outputOf(vm), top + " " + -top + " " + (top + top) + " " + (top - 1));
    due(min + "3PRINT M", HALTED, -1, 3, "-2147483648");
    due(min + "3PRINT M/-1", HALTED, -1, 3, "-2147483648");
    due(min + "3PRINT -M", HALTED, -1, 3, "-2147483648");
    due(min + "3PRINT M*-1", HALTED, -1, 3, "-2147483648");
    due(min + "3PRINT M-1", HALTED, -1, 3, "2147483647");
    due(min + "3PRINT (M-1)+1", HALTED, -1, 3, "-2147483648");
    due(min + "3PRINT (M-1)*(M-1)", HALTED, -1, 3, "1");
    due(min + "3PRINT M*2", HALTED, -1, 3, "0");
    due(min + "3PRINT M/2", HALTED, -1, 3, "-1073741824");
    due(min + "3PRINT 32767*32767*32767", HALTED, -1, 3, "" + 32767 * 32767 * 32767);
    // Negating before dividing and after it differ for the least int alone.
    due(min + "3PRINT -M/2", HALTED, -1, 3, "-1073741824");
    due(min + "3PRINT -(M/2)", HALTED, -1, 3, "1073741824");
    // A comparison is not a wrapped difference.
    due(min + "3IF M<1THEN 5\n4PRINT 0\n5END", HALTED, 5, 4, "");
    due(min + "3IF M-1>-2THEN 5\n4PRINT 0\n5END", HALTED, 5, 4, "");
  }

  private static void divisionByZero() {
    due("1 PRINT 1/0", DIV_ZERO, 1, 1, "");
    due("1 PRINT 0/0", DIV_ZERO, 1, 1, "");
    due("1 PRINT 5/A", DIV_ZERO, 1, 1, "");
    due("1 PRINT 5/(3-3)*0", DIV_ZERO, 1, 1, "");
    due("1 PRINT 1+2*(3/(1-1))", DIV_ZERO, 1, 1, "");
    due("1 PRINT 0/(1/2)", DIV_ZERO, 1, 1, "");
    due("1 PRINT 1/0/1", DIV_ZERO, 1, 1, "");
    TinyBasicVm vm = due("1 LET A=4\n2 LET A=1/0", DIV_ZERO, 2, 2, "");
    Check.due("A after a failed LET", vm.getVar(0), 4);
    due("1 GOTO 1/0", DIV_ZERO, 1, 1, "");
    due("1 GOSUB 1/0", DIV_ZERO, 1, 1, "");
    due("1 IF 1/0=1 THEN 1", DIV_ZERO, 1, 1, "");
    due("1 IF 1=1/0 THEN 1", DIV_ZERO, 1, 1, "");
    due("1 IF 1=1 THEN 1/0", DIV_ZERO, 1, 1, "");
    due("1 IF 1=2 THEN 1/0\n2 END", HALTED, 2, 2, "");
    vm = due("1 LET A=4\n2 FOR A=1/0 TO 2", DIV_ZERO, 2, 2, "");
    Check.due("A after a failed FOR", vm.getVar(0), 4);
    Check.due("frames after a failed FOR", vm.getStackDepth(1), 0);
    vm = due("1 LET A=4\n2 FOR A=1 TO 1/0", DIV_ZERO, 2, 2, "");
    Check.due("A after a FOR without limit", vm.getVar(0), 4);
    // Division by 0 comes before every other error of the statement.
    due(new TinyBasicVm(1, 1, 1), "1 PRINT 1\n2 PRINT 1/0", DIV_ZERO, 2, 2, "1");
    due(new TinyBasicVm(1, 1, 1), "1 GOSUB 2\n2 GOSUB 1/0", DIV_ZERO, 2, 2, "");
    due(new TinyBasicVm(1, 1, 1), "1 FOR A=1TO 1\n2 FOR B=1TO 1/0", DIV_ZERO, 2, 2, "");
    due(new TinyBasicVm(1, 1, 1), "1 FOR A=1TO 1\n2 FOR B=1/0TO 1", DIV_ZERO, 2, 2, "");
    // An error does not linger into the next run.
    vm = Check.compiled("1 IF 0=0 THEN 3\n2 PRINT 1/0\n3 PRINT 8\n4 GOTO 2");
    vm.run(100);
    vm.run(2);
    Check.due("run after a division by 0", Check.outputOf(vm), "8");
    Check.due("cont into it", vm.cont(9), DIV_ZERO);
  }

  private static void printing() {
    due("1 PRINT 3\n2 PRINT 1\n3 PRINT 2", HALTED, -1, 3, "3 1 2");
    TinyBasicVm vm = new TinyBasicVm(8, 8, 2);
    due(vm, "1 PRINT 4\n2 PRINT 5\n3 PRINT 6\n4 PRINT 7", FULL, 3, 3, "4 5");
    due(new TinyBasicVm(8, 8, 2), "1 PRINT 4\n2 PRINT 5", HALTED, -1, 2, "4 5");
  }

  private static void conditions() {
    String[] relations = {"=", "<>", "<", ">", "<=", ">="};
    int[][] pairs = {{1, 2}, {2, 1}, {2, 2}, {-1, 1}, {1, -1}, {-1, -1}, {0, 0}, {-2, -1}};
    for (String relation : relations) {
      for (int[] pair : pairs) {
        boolean holds = holds(relation, pair[0], pair[1]);
        String text = "1IF " + pair[0] + relation + pair[1] + "THEN 3\n2PRINT 0\n3END";
        due(text, HALTED, 3, holds ? 2 : 3, holds ? "" : "0");
      }
    }
    due("1 IF 1=1 THEN 9\n2 END", UNDEFINED, 1, 1, "");
    due("1 IF 1=2 THEN 9\n2 END", HALTED, 2, 2, "");
    due("1 IF 1=2 THEN 1", HALTED, -1, 1, "");
    due("1 LET A=5\n2 IF A>3 THEN A*2\n5 END\n10 PRINT A", HALTED, -1, 3, "5");
  }

  private static boolean holds(String relation, int a, int b) {
    boolean equal = relation.contains("=") && a == b;
    boolean less = relation.contains("<") && a < b;
    boolean greater = relation.contains(">") && a > b;
    return equal || less || greater;
  }

  private static void jumps() {
    due("1 GOTO 3\n2 PRINT 2\n3 PRINT 3", HALTED, -1, 2, "3");
    due("3 PRINT 3\n2 PRINT 2\n1 GOTO 3", HALTED, -1, 2, "3");
    due("1 LET A=A+1\n2 GOTO A*10\n10 GOTO 1\n20 PRINT A", HALTED, -1, 6, "2");
    due("1 GOTO 2", UNDEFINED, 1, 1, "");
    due("1 GOTO 0", UNDEFINED, 1, 1, "");
    due("1 GOTO -1", UNDEFINED, 1, 1, "");
    due("5 GOTO 4\n10 END", UNDEFINED, 5, 1, "");
    due("5 GOTO 6\n10 END", UNDEFINED, 5, 1, "");
    due("1 GOTO 32767\n32767 END", HALTED, 32767, 2, "");
    due("1 GOTO 32767+32767\n32767 END", UNDEFINED, 1, 1, "");
    due("1 GOTO 32767*2+2+1\n2 END", UNDEFINED, 1, 1, "");
  }

  private static void subroutines() {
    due("1 GOSUB 10\n2 PRINT 2\n3 END\n10 PRINT 1\n11 RETURN", HALTED, 3, 5, "1 2");
    due("1 RETURN", NO_GOSUB, 1, 1, "");
    due("1 GOSUB 2\n2 RETURN", NO_GOSUB, 2, 3, "");
    // The line after the last line is the end of the program.
    due("1 GOTO 3\n2 RETURN\n3 GOSUB 2", HALTED, -1, 3, "");
    TinyBasicVm vm = due("1 GOSUB 5\n2 END", UNDEFINED, 1, 1, "");
    Check.due("entries after a failed GOSUB", vm.getStackDepth(0), 0);
    vm = due(new TinyBasicVm(2, 1, 1), "1 LET A=A+1\n2 GOSUB 1", DEEP_GOSUB, 2, 6, "");
    Check.due("entries after an overflow", vm.getStackDepth(0), 2);
    Check.due("A after an overflow", vm.getVar(0), 3);
    due(new TinyBasicVm(1, 1, 1), "1 GOSUB 2\n2 GOSUB 7", UNDEFINED, 2, 2, "");
    due("1 GOSUB 4\n2 PRINT 9\n3 END\n4 GOSUB 7\n5 PRINT 8\n6 RETURN\n7 PRINT 7\n8 RETURN", HALTED, 3, 8, "7 8 9");
    due(new TinyBasicVm(1, 1, 9), "1GOSUB 5\n2GOSUB 5\n3GOSUB 5\n4END\n5PRINT 5\n6RETURN", HALTED, 4, 10, "5 5 5");
  }

  private static void loops() {
    due("1 FOR I=1 TO 3\n2 PRINT I\n3 NEXT I\n4 PRINT I", HALTED, -1, 8, "1 2 3 4");
    due("1 FOR I=5 TO 3\n2 PRINT I\n3 NEXT I\n4 PRINT I", HALTED, -1, 4, "5 6");
    due("1 FOR I=3 TO 3\n2 PRINT I\n3 NEXT I\n4 PRINT I", HALTED, -1, 4, "3 4");
    due("1 FOR I=-2 TO 0\n2 PRINT I\n3 NEXT I", HALTED, -1, 7, "-2 -1 0");
    due("1 NEXT I", NO_FOR, 1, 1, "");
    due("1 FOR I=1 TO 1\n2 NEXT J", NO_FOR, 2, 2, "");
    due("1 FOR I=1 TO 1\n2 NEXT I\n3 NEXT I", NO_FOR, 3, 3, "");
    due("1 LET L=2\n2 FOR I=1 TO L\n3 LET L=9\n4 PRINT I\n5 NEXT I", HALTED, -1, 8, "1 2");
    due("1 LET I=4\n2 FOR I=I+1 TO I+2\n3 PRINT I\n4 NEXT I", HALTED, -1, 6, "5 6");
    due("1 FOR I=1 TO 9\n2 PRINT I\n3 LET I=I+3\n4 NEXT I", HALTED, -1, 10, "1 5 9");
    // The body of a FOR on the last line is the end of the program.
    due("1 GOTO 3\n2 NEXT I\n3 FOR I=1 TO 5", HALTED, -1, 2, "");
    TinyBasicVm vm = due("1 IF I>0 THEN 3\n2 GOTO 4\n3 NEXT I\n4 FOR I=1 TO 5", HALTED, -1, 3, "");
    Check.due("frames at the end", vm.getStackDepth(1), 1);
    bodyAtTheEnd();
    // NEXT wraps from the greatest int to the least one, which is below any limit.
    String top = "1LET M=32767*32767*2+32767*4+1\n";
    due(top + "2FOR I=M TO M\n3PRINT I\n4IF I<0THEN 6\n5NEXT I\n6END", HALTED, 6, 8, "2147483647 -2147483648");
  }

  private static void bodyAtTheEnd() {
    TinyBasicVm vm = due("1GOSUB 5\n2NEXT I\n3END\n5FOR I=1TO 5", HALTED, -1, 2, "");
    Check.due("I", vm.getVar(8), 1);
    vm = due("1GOTO 4\n2NEXT I\n3END\n4GOSUB 9\n5GOTO 2\n9GOTO 11\n10RETURN\n11FOR I=1TO 2", HALTED, -1, 4, "");
    Check.due("GOSUB entries", vm.getStackDepth(0), 1);
  }

  private static void loopFrames() {
    due("1FOR I=1TO 2\n2FOR J=1TO 2\n3PRINT I*10+J\n4NEXT J\n5NEXT I", HALTED, -1, 13, "11 12 21 22");
    // NEXT of an outer loop drops the inner frames.
    TinyBasicVm vm = due("1FOR I=1TO 1\n2FOR J=1TO 5\n3NEXT I\n4NEXT J", NO_FOR, 4, 4, "");
    Check.due("frames after the outer NEXT", vm.getStackDepth(1), 0);
    vm = Check.compiled("1FOR I=1TO 3\n2FOR J=1TO 5\n3FOR K=1TO 5\n4NEXT I");
    vm.run(3);
    Check.due("three frames", vm.getStackDepth(1), 3);
    vm.cont(1);
    Check.due("frames above are dropped when the loop goes on", vm.getStackDepth(1), 1);
    // FOR of a variable that has a frame drops it and all above it.
    vm = Check.compiled("1FOR I=1TO 3\n2FOR J=1TO 5\n3FOR K=1TO 5\n4FOR J=7TO 8\n5NEXT K");
    Check.due("K's frame is gone", vm.run(9), NO_FOR);
    Check.due("frames of I and J", vm.getStackDepth(1), 2);
    Check.due("J", vm.getVar(9), 7);
    vm = due("1FOR I=1TO 9\n2FOR I=5TO 6\n3PRINT I\n4NEXT I\n5NEXT I", NO_FOR, 5, 7, "5 6");
    // A full stack takes a FOR of a variable that it holds, and no other.
    vm = due(new TinyBasicVm(1, 2, 9), "1FOR A=1TO 2\n2FOR B=1TO 2\n3FOR B=5TO 5\n4FOR A=8TO 8\n5END", HALTED, 5, 5, "");
    Check.due("frames", vm.getStackDepth(1), 1);
    vm = due(new TinyBasicVm(1, 2, 9), "1FOR A=1TO 2\n2FOR B=1TO 2\n3LET C=6\n4FOR C=1TO 2", DEEP_FOR, 4, 4, "");
    Check.due("C after an overflow", vm.getVar(2), 6);
    Check.due("frames after an overflow", vm.getStackDepth(1), 2);
    failedNextChangesNothing();
    stacksAreIndependent();
  }

  private static void failedNextChangesNothing() {
    TinyBasicVm vm = due("1FOR I=1TO 3\n2FOR J=1TO 5\n3LET K=4\n4NEXT K", NO_FOR, 4, 4, "");
    Check.due("frames", vm.getStackDepth(1), 2);
    Check.due("K", vm.getVar(10), 4);
  }

  private static void stacksAreIndependent() {
    TinyBasicVm vm = due("1GOSUB 3\n2NEXT I\n3FOR I=1TO 1\n4IF I>1THEN 6\n5RETURN\n6END", NO_GOSUB, 5, 8, "");
    Check.due("frames after RETURN", vm.getStackDepth(1), 1);
    vm = Check.compiled("1FOR I=1TO 2\n2GOSUB 3\n3NEXT I\n4END");
    Check.due("run", vm.run(100), HALTED);
    Check.due("entries left in the subroutine", vm.getStackDepth(0), 2);
    Check.due("frames left", vm.getStackDepth(1), 0);
  }

  private static void endings() {
    due("1 END\n2 PRINT 1", HALTED, 1, 1, "");
    due("1 PRINT 1\n2 END", HALTED, 2, 2, "1");
    due("1 PRINT 1", HALTED, -1, 1, "1");
    TinyBasicVm vm = Check.compiled("1 PRINT 1\n2 PRINT 2");
    Check.due("run(1)", vm.run(1), FUEL);
    Check.due("stop line of run(1)", vm.getStopLine(), 2);
    Check.due("run(2)", vm.run(2), HALTED);
    Check.due("stop line of run(2)", vm.getStopLine(), -1);
    vm = Check.compiled("1 PRINT 1\n2 END");
    Check.due("run(1) before END", vm.run(1), FUEL);
    Check.due("stop line before END", vm.getStopLine(), 2);
    Check.due("run(2) with END", vm.run(2), HALTED);
    Check.due("stop line with END", vm.getStopLine(), 2);
    vm = Check.compiled("1 PRINT 1\n2 RETURN");
    Check.due("run(2) with an error", vm.run(2), NO_GOSUB);
    Check.due("run(1) before an error", vm.run(1), FUEL);
  }

  private static void eachRunStartsAfresh() {
    TinyBasicVm vm = Check.compiled("1 LET A=A+1\n2 PRINT A\n3 GOSUB 4\n4 FOR B=A TO 9\n5 RETURN");
    vm.run(100);
    String first = Check.wholeState(vm);
    for (int round = 0; round < 5; round++) {
      vm.run(round + 1);
      vm.run(100);
      Check.due("state of run " + round, Check.wholeState(vm), first);
    }
    Check.due("compile after runs", vm.compile(), TinyBasicVm.C_OK);
    Check.due("lines after runs", vm.lineCount(), 5);
  }
}
