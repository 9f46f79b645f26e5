import java.util.function.ToIntBiFunction;

/** The boundary sentences of promises 7 to 13, one method each. */
public final class RunEdgesTest {
  private static final int REFUSED = TinyBasicVm.REFUSED;
  private static final int IDLE = TinyBasicVm.ST_IDLE;
  private static final int HALTED = TinyBasicVm.ST_HALTED;
  private static final int FUEL = TinyBasicVm.ST_OUT_OF_FUEL;
  private static final int[] ANY_FUELS = {Integer.MIN_VALUE, -1000, -1, 0, 1, 2, 999, 1000, 1001, 65537, Integer.MAX_VALUE};

  // One program for each way a run can end before its fuel is used up; capacities are 1, 1, 1.
  private static final String[] ENDINGS = {
    "", "5LET A=1", "5LET A=1\n6END", "5LET A=1\n6GOTO 7", "5RETURN", "5NEXT A", "5LET A=1/0", "5GOSUB 6\n6GOSUB 5",
    "5FOR A=1TO 2\n6FOR B=1TO 2", "5PRINT 1\n6PRINT 2"
  };
  private static final int[] STATUSES = {
    HALTED, HALTED, HALTED, TinyBasicVm.ERR_UNDEFINED_LINE, TinyBasicVm.ERR_RETURN_WITHOUT_GOSUB, TinyBasicVm.ERR_NEXT_WITHOUT_FOR,
    TinyBasicVm.ERR_DIV_ZERO, TinyBasicVm.ERR_GOSUB_OVERFLOW, TinyBasicVm.ERR_FOR_OVERFLOW, TinyBasicVm.ERR_OUTPUT_FULL
  };
  private static final int[] STOP_LINES = {-1, -1, 6, 6, 5, 5, 5, 6, 6, 6};
  private static final int[] STEPS = {0, 1, 2, 2, 1, 1, 1, 2, 2, 2};

  // Programs that come to every kind of statement, so that a run can be parted anywhere.
  private static final String[] PROGRAMS = {
    "1GOTO 1",
    "1FOR I=1TO 3\n2GOSUB 5\n3NEXT I\n4END\n5PRINT I*I\n6RETURN",
    "1LET A=A+1\n2PRINT A\n3IF A<9THEN 1",
    "1LET A=A+1\n2GOSUB 1",
    "1FOR A=1TO 2\n2FOR B=1TO 2\n3FOR C=1TO 2\n4NEXT A\n5FOR D=1TO 1\n6NEXT C",
    "1LET A=A+1\n2PRINT 20/(7-A)\n3GOTO 1",
    "1PRINT 1\n2GOTO 1",
    "1FOR I=1TO 400\n2NEXT I\n3GOTO I"
  };

  public static void main(String[] args) {
    runRefused();
    runFuelIsClamped();
    runResetsTheRunState();
    runIsNeverIdle();
    programWithNoLines();
    runAgain();
    runKeepsTheProgram();
    contRefused();
    contFuelIsClamped();
    contKeepsTheRunState();
    resumingIsRunningLonger();
    sumOfTheFuels();
    outOfFuelExactlyWhen();
    statusOfEachEnding();
    statusIsNeverRefused();
    stopLineOfNoLine();
    stopLineOfEnd();
    stopLineOutOfFuel();
    stopLineOfAnError();
    stepsAfterAReset();
    stepsAreSummed();
    varOutside();
    outputCount();
    outputInOrder();
    outputOutside();
    stackDepths();
    otherKinds();
    gettersChangeNothing();
    Check.finish();
  }

  private static TinyBasicVm small() {
    return new TinyBasicVm(1, 1, 1);
  }

  private static int clamped(int fuel) {
    return Math.max(1, Math.min(1000, fuel));
  }

  // ---- promise 7 ----

  private static void dueRunRefused(String when, TinyBasicVm vm) {
    String before = Check.wholeState(vm);
    for (int fuel : ANY_FUELS) {
      Check.due(when + ": run(" + fuel + ")", vm.run(fuel), REFUSED);
    }
    Check.due(when + ": state after refused runs", Check.wholeState(vm), before);
  }

  private static void runRefused() {
    Check.sentence("Promise 7: refused .. unless the last compile answered C_OK and no put or clear has succeeded since");
    TinyBasicVm vm = new TinyBasicVm(8, 8, 32);
    dueRunRefused("new object", vm);
    Check.load(vm, "1LET A=5");
    dueRunRefused("before compile", vm);
    vm.compile();
    Check.due("run after compile", vm.run(5), HALTED);
    vm.put(127, 0, 0, 0);
    Check.due("run after a refused put", vm.run(5), HALTED);
    vm.put(10, 0, 0, 0);
    dueRunRefused("after put", vm);
    vm.compile();
    Check.due("run after compile again", vm.run(5), HALTED);
    vm.put('X', 0, 0, 0);
    vm.compile();
    dueRunRefused("after a failed compile", vm);
    Check.due("error line after refused runs", vm.getCompileErrorLine(), 2);
    vm.clear();
    dueRunRefused("after clear", vm);
    vm.compile();
    Check.due("run of the empty source", vm.run(5), HALTED);
    vm.clear();
    dueRunRefused("after clear of an empty program", vm);
  }

  private static void runFuelIsClamped() {
    Check.sentence("Otherwise fuel is clamped into 1..1000 in the same way as the constructor's arguments.");
    TinyBasicVm vm = Check.compiled("7LET A=A+1\n8GOTO 7");
    for (int fuel : ANY_FUELS) {
      Check.due("run(" + fuel + ")", vm.run(fuel), FUEL);
      Check.due("steps of run(" + fuel + ")", vm.getSteps(), clamped(fuel));
      Check.due("A after run(" + fuel + ")", vm.getVar(0), (clamped(fuel) + 1) / 2);
    }
    vm = Check.compiled("1END");
    for (int fuel : ANY_FUELS) {
      Check.due("run(" + fuel + ") of END", vm.run(fuel), HALTED);
    }
  }

  private static void runResetsTheRunState() {
    Check.sentence("The call resets the run state, sets the position to the first line in program order");
    TinyBasicVm vm = Check.compiled("9LET B=1\n5IF A<>0THEN 99\n6LET A=A+1\n7GOSUB 8\n8FOR C=1TO 5");
    for (int fuel = 1; fuel <= 6; fuel++) {
      vm.run(fuel);
      vm.run(1);
      Check.dueStop("run(1) after run(" + fuel + ")", vm, FUEL, 6, 1);
      Check.due("A", vm.getVar(0), 0);
      Check.due("B", vm.getVar(1), 0);
      Check.due("C", vm.getVar(2), 0);
      Check.dueStacks("run(1)", vm, 0, 0);
    }
  }

  private static void runIsNeverIdle() {
    Check.sentence("answers the final status, which is never ST_IDLE");
    for (int i = 0; i < ENDINGS.length; i++) {
      TinyBasicVm vm = Check.compiled(small(), ENDINGS[i]);
      int answer = vm.run(9);
      Check.due("run of " + Check.quote(ENDINGS[i]), answer, STATUSES[i]);
      Check.due("getStatus()", vm.getStatus(), answer);
      Check.due("the answer is ST_IDLE", answer == IDLE, false);
    }
  }

  private static void programWithNoLines() {
    Check.sentence("A program with no lines halts at once: ST_HALTED, stop line -1, steps 0.");
    for (String text : new String[] {"", " ", "\n", " \n \n", "\n".repeat(256)}) {
      TinyBasicVm vm = Check.compiled(text);
      for (int fuel : ANY_FUELS) {
        Check.due("run(" + fuel + ")", vm.run(fuel), HALTED);
        Check.dueStop("run(" + fuel + ")", vm, HALTED, -1, 0);
        Check.due("cont(" + fuel + ")", vm.cont(fuel), REFUSED);
      }
    }
    // Lines of an earlier program are not run.
    TinyBasicVm vm = Check.compiled("1PRINT 1\n2GOTO 1");
    vm.run(5);
    vm.clear();
    vm.compile();
    Check.due("run after clear and compile", vm.run(5), HALTED);
    Check.dueStop("run after clear and compile", vm, HALTED, -1, 0);
    Check.due("output", vm.getOutputCount(), 0);
  }

  private static void runAgain() {
    Check.sentence("run may be called again any number of times ..; each call starts afresh from a reset run state");
    for (String text : PROGRAMS) {
      TinyBasicVm vm = Check.compiled(text);
      for (int fuel = 1; fuel <= 60; fuel++) {
        TinyBasicVm fresh = Check.compiled(text);
        Check.due("run(" + fuel + ") of " + Check.quote(text), vm.run(fuel), fresh.run(fuel));
        Check.due("state of run(" + fuel + ")", Check.wholeState(vm), Check.wholeState(fresh));
        vm.cont(fuel % 7);
      }
    }
  }

  private static void runKeepsTheProgram() {
    Check.sentence("The compiled program, the source and the compile error line do not change.");
    String text = "30PRINT 3\n10PRINT 1\n20GOTO 10";
    TinyBasicVm vm = Check.compiled(text);
    vm.run(100);
    Check.due("lines", vm.lineCount(), 3);
    for (int k = 0; k < 3; k++) {
      Check.due("line " + k, vm.lineNumberAt(k), 10 * (k + 1));
    }
    Check.due("error line", vm.getCompileErrorLine(), 0);
    Check.due("the room that is left", Check.load(vm, "\n".repeat(256 - text.length())), true);
    Check.due("and no more", vm.put(10, 0, 0, 0), false);
    Check.due("compile", vm.compile(), TinyBasicVm.C_OK);
    Check.due("lines again", vm.lineCount(), 3);
  }

  // ---- promise 8 ----

  private static void dueContRefused(String when, TinyBasicVm vm) {
    String before = Check.wholeState(vm);
    for (int fuel : ANY_FUELS) {
      Check.due(when + ": cont(" + fuel + ")", vm.cont(fuel), REFUSED);
    }
    Check.due(when + ": state after refused conts", Check.wholeState(vm), before);
  }

  private static void contRefused() {
    Check.sentence("Promise 8: `cont(fuel)` is refused (answers REFUSED, changes nothing) unless getStatus() == ST_OUT_OF_FUEL.");
    dueContRefused("new object", small());
    for (String text : ENDINGS) {
      TinyBasicVm vm = Check.compiled(small(), text);
      dueContRefused("before run of " + Check.quote(text), vm);
      vm.run(9);
      dueContRefused("after run of " + Check.quote(text), vm);
      vm.compile();
      dueContRefused("after compile of " + Check.quote(text), vm);
    }
    TinyBasicVm vm = Check.compiled("1PRINT 7\n2GOTO 2");
    vm.run(5);
    vm.compile();
    dueContRefused("out of fuel, then compile", vm);
    vm.run(5);
    vm.put(10, 0, 0, 0);
    dueContRefused("out of fuel, then put", vm);
    vm.compile();
    vm.run(5);
    vm.clear();
    dueContRefused("out of fuel, then clear", vm);
    // A cont that ends the run is the last one.
    vm = Check.compiled("1PRINT 7\n2PRINT 8");
    vm.run(1);
    Check.due("cont(1)", vm.cont(1), HALTED);
    dueContRefused("halted by cont", vm);
  }

  private static void contFuelIsClamped() {
    Check.sentence("Promise 8: Otherwise fuel is clamped into 1..1000.");
    for (int fuel : ANY_FUELS) {
      TinyBasicVm vm = Check.compiled("7GOTO 7");
      vm.run(3);
      Check.due("cont(" + fuel + ")", vm.cont(fuel), FUEL);
      Check.dueStop("cont(" + fuel + ")", vm, FUEL, 7, 3 + clamped(fuel));
    }
    for (int fuel = -2; fuel <= 1002; fuel++) {
      TinyBasicVm vm = Check.compiled("7GOTO 7");
      vm.run(1);
      vm.cont(fuel);
      Check.due("steps after cont(" + fuel + ")", vm.getSteps(), 1 + clamped(fuel));
    }
  }

  private static void contKeepsTheRunState() {
    Check.sentence("The call keeps the whole run state (steps keep counting), runs the run loop from the position with a new budget");
    TinyBasicVm vm = Check.compiled("1LET A=3\n2PRINT A\n3FOR B=1TO 2\n4GOSUB 5\n5LET Z=Z+1\n6GOTO 5");
    vm.run(4);
    Check.dueStop("run(4)", vm, FUEL, 5, 4);
    for (int steps = 5; steps <= 30; steps++) {
      Check.due("cont(1)", vm.cont(1), FUEL);
      Check.dueStop("cont(1)", vm, FUEL, steps % 2 == 0 ? 5 : 6, steps);
      Check.due("A", vm.getVar(0), 3);
      Check.due("B", vm.getVar(1), 1);
      Check.due("Z", vm.getVar(25), (steps - 3) / 2);
      Check.due("output", Check.outputOf(vm), "3");
      Check.dueStacks("cont(1)", vm, 1, 1);
    }
  }

  private static void resumingIsRunningLonger() {
    Check.sentence("run(a) followed by cont(b) leaves the object exactly as a single run(a + b) from that same state would");
    int[][] parts = {{1, 1}, {1, 2}, {2, 1}, {1, 999}, {999, 1}, {500, 500}, {1, 998}, {998, 1}, {333, 333}};
    for (String text : PROGRAMS) {
      for (int[] part : parts) {
        dueSame(text, part[0], part[1]);
      }
      for (int whole = 2; whole <= 45; whole++) {
        for (int a = 1; a < whole; a++) {
          dueSame(text, a, whole - a);
        }
      }
    }
  }

  private static void dueSame(String text, int a, int b) {
    TinyBasicVm parted = Check.compiled(new TinyBasicVm(3, 2, 5), text);
    TinyBasicVm whole = Check.compiled(new TinyBasicVm(3, 2, 5), text);
    if (parted.run(a) == FUEL) {
      String what = "run(" + a + "), cont(" + b + ") of " + Check.quote(text);
      Check.due(what, parted.cont(b), whole.run(a + b));
      Check.due(what + ": state", Check.wholeState(parted), Check.wholeState(whole));
      Check.due(what + ", cont(3)", parted.cont(3), whole.cont(3));
      Check.due(what + ", cont(3): state", Check.wholeState(parted), Check.wholeState(whole));
      Check.due(what + ", run(4)", parted.run(4), whole.run(4));
      Check.due(what + ", run(4): state", Check.wholeState(parted), Check.wholeState(whole));
    }
  }

  private static void sumOfTheFuels() {
    Check.sentence("getSteps() never exceeds the clamped fuel of the last accepted run plus the clamped fuels of the accepted conts after it");
    for (String text : PROGRAMS) {
      TinyBasicVm vm = Check.compiled(text);
      for (int first : ANY_FUELS) {
        long sum = clamped(first);
        vm.run(first);
        Check.due("steps within the fuel of run(" + first + ")", vm.getSteps() <= sum, true);
        for (int fuel : ANY_FUELS) {
          boolean accepted = vm.cont(fuel) != REFUSED;
          sum += accepted ? clamped(fuel) : 0;
          Check.due("steps within the sum", vm.getSteps() <= sum, true);
          Check.due("out of fuel with fuel left", vm.getStatus() == FUEL && vm.getSteps() != sum, false);
        }
      }
    }
    TinyBasicVm vm = Check.compiled("1GOTO 1");
    vm.run(Integer.MAX_VALUE);
    for (int i = 1; i <= 100; i++) {
      vm.cont(Integer.MAX_VALUE);
      Check.due("steps after " + i + " conts", vm.getSteps(), 1000 * (i + 1));
    }
  }

  private static void outOfFuelExactlyWhen() {
    Check.sentence("ST_OUT_OF_FUEL is the status exactly when that sum equals getSteps(), the last executed statement neither failed nor "
        + "was END, and the position is not END-OF-PROGRAM (in that last case the status is ST_HALTED with stop line -1).");
    // All fuel used up, and then: a line, END-OF-PROGRAM, END, a failure.
    dueLast("1LET A=1\n2LET A=2\n3LET A=3", FUEL, 3);
    dueLast("1LET A=1\n2LET A=2", HALTED, -1);
    dueLast("1LET A=1\n2END\n3LET A=3", HALTED, 2);
    dueLast("1LET A=1\n2END", HALTED, 2);
    dueLast("1LET A=1\n2RETURN\n3LET A=3", TinyBasicVm.ERR_RETURN_WITHOUT_GOSUB, 2);
    dueLast("1LET A=1\n2PRINT 1/0", TinyBasicVm.ERR_DIV_ZERO, 2);
    dueLast("1LET A=1\n2GOTO 5", TinyBasicVm.ERR_UNDEFINED_LINE, 2);
    dueLast("1LET A=1\n2IF 1=2THEN 1", HALTED, -1);
    dueLast("1LET A=1\n2IF 1=1THEN 1", FUEL, 1);
    dueLast("1FOR A=1TO 1\n2NEXT A", HALTED, -1);
    dueLast("1FOR A=1TO 2\n2NEXT A", FUEL, 2);
  }

  /** After two statements with a fuel of two, in one call and in two. */
  private static void dueLast(String text, int status, int stopLine) {
    TinyBasicVm vm = Check.compiled(text);
    Check.due("run(2) of " + Check.quote(text), vm.run(2), status);
    Check.dueStop("run(2) of " + Check.quote(text), vm, status, stopLine, 2);
    vm.run(1);
    Check.due("run(1), cont(1) of " + Check.quote(text), vm.cont(1), status);
    Check.dueStop("run(1), cont(1) of " + Check.quote(text), vm, status, stopLine, 2);
  }

  // ---- promises 9 and 10 ----

  private static void statusOfEachEnding() {
    Check.sentence("Promise 9: ST_IDLE after a reset, otherwise the final status of the last run or cont that was not refused");
    for (int i = 0; i < ENDINGS.length; i++) {
      TinyBasicVm vm = Check.loaded(small(), ENDINGS[i]);
      Check.due("before compile", vm.getStatus(), IDLE);
      vm.compile();
      Check.due("after compile", vm.getStatus(), IDLE);
      vm.run(9);
      Check.due("after run", vm.getStatus(), STATUSES[i]);
      vm.cont(9);
      Check.due("after a refused cont", vm.getStatus(), STATUSES[i]);
      vm.put(0, 0, 0, 0);
      Check.due("after a refused put", vm.getStatus(), STATUSES[i]);
      vm.put(32, 0, 0, 0);
      Check.due("after put", vm.getStatus(), IDLE);
      vm.run(9);
      Check.due("after a refused run", vm.getStatus(), IDLE);
      vm.compile();
      vm.run(9);
      Check.due("after run again", vm.getStatus(), STATUSES[i]);
      vm.clear();
      Check.due("after clear", vm.getStatus(), IDLE);
    }
  }

  private static void statusIsNeverRefused() {
    Check.sentence("Promise 9: (never REFUSED)");
    TinyBasicVm vm = new TinyBasicVm(8, 8, 32);
    vm.run(5);
    Check.due("after a refused run", vm.getStatus(), IDLE);
    vm.cont(5);
    Check.due("after a refused cont", vm.getStatus(), IDLE);
    Check.compiled(vm, "1END");
    vm.run(5);
    vm.cont(5);
    Check.due("after a refused cont of a halted run", vm.getStatus(), HALTED);
  }

  /** The stop lines of the endings with this status, or of all that failed if it is 0. */
  private static void dueStopLines(int status) {
    for (int i = 0; i < ENDINGS.length; i++) {
      if (STATUSES[i] == status || status == 0 && STATUSES[i] > FUEL) {
        TinyBasicVm vm = Check.compiled(small(), ENDINGS[i]);
        vm.run(9);
        Check.due("after run of " + Check.quote(ENDINGS[i]), vm.getStopLine(), STOP_LINES[i]);
        vm.cont(9);
        Check.due("after a refused cont", vm.getStopLine(), STOP_LINES[i]);
      }
    }
  }

  private static void stopLineOfNoLine() {
    Check.sentence("`getStopLine()` .. is -1 when ST_IDLE or when halted by reaching END-OF-PROGRAM.");
    Check.due("new object", small().getStopLine(), -1);
    for (String text : ENDINGS) {
      TinyBasicVm vm = Check.compiled(small(), text);
      Check.due("idle before run of " + Check.quote(text), vm.getStopLine(), -1);
      vm.run(9);
      vm.compile();
      Check.due("idle after compile", vm.getStopLine(), -1);
      vm.run(9);
      vm.put(10, 0, 0, 0);
      Check.due("idle after put", vm.getStopLine(), -1);
      vm.compile();
      vm.run(9);
      vm.clear();
      Check.due("idle after clear", vm.getStopLine(), -1);
    }
    dueStopLines(HALTED);
  }

  private static void stopLineOfEnd() {
    Check.sentence("When halted by END, it is the END line.");
    for (int line : new int[] {1, 5, 32767}) {
      TinyBasicVm vm = Check.compiled(line + "END");
      vm.run(9);
      Check.due("the END line", vm.getStopLine(), line);
    }
    TinyBasicVm vm = Check.compiled("1GOTO 3\n2END\n3GOTO 4\n4END\n5END");
    vm.run(2);
    vm.cont(1);
    Check.due("the END line that was reached", vm.getStopLine(), 4);
  }

  private static void stopLineOutOfFuel() {
    Check.sentence("When out of fuel, it is the line that would run next.");
    TinyBasicVm vm = Check.compiled("10GOTO 30\n20END\n30GOSUB 20");
    vm.run(1);
    Check.due("the jump's target", vm.getStopLine(), 30);
    vm.cont(1);
    Check.due("the subroutine's line", vm.getStopLine(), 20);
    vm = Check.compiled("32767GOTO 1\n1LET A=1");
    vm.run(1);
    Check.due("the line after", vm.getStopLine(), 32767);
    vm.cont(1);
    Check.due("the first line", vm.getStopLine(), 1);
  }

  private static void stopLineOfAnError() {
    Check.sentence("On an error, it is the failing line.");
    dueStopLines(0);
    TinyBasicVm vm = Check.compiled("1GOTO 9\n9GOTO 5\n10END");
    vm.run(1);
    vm.cont(1);
    Check.due("the line that jumps nowhere", vm.getStopLine(), 9);
  }

  private static void stepsAfterAReset() {
    Check.sentence("Promise 10: It is 0 after a reset.");
    TinyBasicVm vm = Check.loaded("1GOTO 1");
    Check.due("before compile", vm.getSteps(), 0);
    vm.compile();
    vm.run(5);
    Check.due("after run", vm.getSteps(), 5);
    vm.compile();
    Check.due("after compile", vm.getSteps(), 0);
    vm.run(5);
    vm.put(10, 0, 0, 0);
    Check.due("after put", vm.getSteps(), 0);
    vm.compile();
    vm.run(5);
    vm.clear();
    Check.due("after clear", vm.getSteps(), 0);
    Check.due("new object", small().getSteps(), 0);
  }

  private static void stepsAreSummed() {
    Check.sentence("Promise 10: the number of statements executed since the last run (summed over following conts)");
    TinyBasicVm vm = Check.compiled("1GOTO 1");
    int sum = 7;
    vm.run(100);
    vm.run(7);
    for (int fuel = 1; fuel <= 50; fuel++) {
      vm.cont(fuel);
      sum += fuel;
      Check.due("steps after cont(" + fuel + ")", vm.getSteps(), sum);
    }
    vm.run(3);
    Check.due("steps of the next run", vm.getSteps(), 3);
    for (int i = 0; i < ENDINGS.length; i++) {
      vm = Check.compiled(small(), ENDINGS[i]);
      vm.run(1);
      vm.cont(1);
      vm.cont(1);
      Check.due("steps of " + Check.quote(ENDINGS[i]), vm.getSteps(), STEPS[i]);
    }
  }

  // ---- promises 11 to 13 ----

  private static void varOutside() {
    Check.sentence("Promise 11: It answers 0 if v is outside 0..25.");
    TinyBasicVm vm = Check.compiled("1LET A=32767\n2LET Z=-32767\n3PRINT 5\n4FOR Y=6TO 7");
    Check.due("A before run", vm.getVar(0), 0);
    vm.run(9);
    for (int v = -300; v <= 300; v++) {
      int due = v == 0 ? 32767 : v == 24 ? 6 : v == 25 ? -32767 : 0;
      Check.due("getVar(" + v + ")", vm.getVar(v), due);
    }
    for (int v : new int[] {Integer.MIN_VALUE, Integer.MIN_VALUE + 25, -65536, 65536, 1 << 24, Integer.MAX_VALUE}) {
      Check.due("getVar(" + v + ")", vm.getVar(v), 0);
    }
  }

  private static void outputCount() {
    Check.sentence("Promise 12: `getOutputCount()` answers the number of values printed, 0..outCap.");
    for (int outCap : new int[] {1, 2, 31, 32}) {
      TinyBasicVm vm = Check.compiled(new TinyBasicVm(1, 1, outCap), "1PRINT 9\n2GOTO 1");
      Check.due("before run", vm.getOutputCount(), 0);
      for (int fuel = 1; fuel <= 80; fuel++) {
        vm.run(fuel);
        Check.due("after run(" + fuel + ")", vm.getOutputCount(), Math.min(outCap, (fuel + 1) / 2));
      }
      vm.compile();
      Check.due("after compile", vm.getOutputCount(), 0);
    }
  }

  private static void outputInOrder() {
    Check.sentence("Promise 12: `getOutput(i)` answers the i-th printed value (from 0), in the order they were printed.");
    TinyBasicVm vm = Check.compiled("1LET A=A*-3+1\n2PRINT A\n3GOTO 1");
    vm.run(1000);
    int value = 0;
    for (int i = 0; i < 32; i++) {
      value = value * -3 + 1;
      Check.due("getOutput(" + i + ")", vm.getOutput(i), value);
    }
  }

  private static void outputOutside() {
    Check.sentence("Promise 12: It answers 0 if i is outside 0..getOutputCount()-1.");
    TinyBasicVm vm = Check.compiled("1LET A=A+1\n2PRINT A*100\n3GOTO 1");
    for (int count : new int[] {32, 31, 17, 2, 1, 0}) {
      vm.run(3 * count + 1);
      for (int i = -40; i <= 70; i++) {
        Check.due("getOutput(" + i + ") of " + count, vm.getOutput(i), i >= 0 && i < count ? (i + 1) * 100 : 0);
      }
      for (int i : new int[] {Integer.MIN_VALUE, -65536, -256, 256, 65536, Integer.MAX_VALUE}) {
        Check.due("getOutput(" + i + ") of " + count, vm.getOutput(i), 0);
      }
    }
    vm.run(1000);
    Check.due("the last value of a full output", vm.getOutput(31), 3200);
    vm.compile();
    Check.due("the first value after compile", vm.getOutput(0), 0);
    Check.due("the last value after compile", vm.getOutput(31), 0);
  }

  private static void stackDepths() {
    Check.sentence("Promise 13: (kind STACK_GOSUB), which is 0..gosubDepth, or .. (kind STACK_FOR), which is 0..forDepth");
    String fors = "1FOR A=1TO 2\n2FOR B=1TO 2\n3FOR C=1TO 2\n4FOR D=1TO 2\n5FOR E=1TO 2\n6FOR F=1TO 2\n7FOR G=1TO 2\n8FOR H=1TO 2\n9FOR I=1TO 2";
    for (int depth = 1; depth <= 8; depth++) {
      TinyBasicVm loops = Check.compiled(new TinyBasicVm(1, depth, 1), fors);
      TinyBasicVm calls = Check.compiled(new TinyBasicVm(depth, 1, 1), "1GOSUB 1");
      Check.dueStacks("before run", loops, 0, 0);
      Check.dueStacks("before run", calls, 0, 0);
      for (int fuel = 1; fuel <= 12; fuel++) {
        loops.run(fuel);
        Check.dueStacks("loops, run(" + fuel + ")", loops, 0, Math.min(fuel, depth));
        calls.run(fuel);
        Check.dueStacks("calls, run(" + fuel + ")", calls, Math.min(fuel, depth), 0);
      }
    }
  }

  private static void otherKinds() {
    Check.sentence("Promise 13: It answers 0 for any other kind.");
    TinyBasicVm vm = Check.compiled("1FOR A=1TO 2\n2FOR B=1TO 2\n3GOSUB 3");
    vm.run(7);
    Check.dueStacks("both stacks in use", vm, 5, 2);
    for (int kind = -300; kind <= 300; kind++) {
      Check.due("getStackDepth(" + kind + ")", vm.getStackDepth(kind), kind == 0 ? 5 : kind == 1 ? 2 : 0);
    }
    for (int kind : new int[] {Integer.MIN_VALUE, Integer.MIN_VALUE + 1, 65536, 65537, Integer.MAX_VALUE}) {
      Check.due("getStackDepth(" + kind + ")", vm.getStackDepth(kind), 0);
    }
  }

  private static void gettersChangeNothing() {
    Check.sentence("Promise 9: Neither call changes anything.");
    dueUnchanged((vm, i) -> vm.getStatus() + vm.getStopLine());
    Check.sentence("Promise 10: It changes nothing.");
    dueUnchanged((vm, i) -> vm.getSteps());
    Check.sentence("Promise 11: It changes nothing.");
    dueUnchanged((vm, i) -> vm.getVar(i));
    Check.sentence("Promise 12: Neither call changes anything.");
    dueUnchanged((vm, i) -> vm.getOutputCount() + vm.getOutput(i));
    Check.sentence("Promise 13: It changes nothing.");
    dueUnchanged((vm, i) -> vm.getStackDepth(i));
  }

  /** Asks a getter again and again in the middle of each program: nothing changes, then or later. */
  private static void dueUnchanged(ToIntBiFunction<TinyBasicVm, Integer> getter) {
    for (String text : PROGRAMS) {
      TinyBasicVm vm = Check.compiled(text);
      TinyBasicVm other = Check.compiled(text);
      vm.run(6);
      other.run(6);
      String before = Check.wholeState(vm);
      for (int i = -2; i <= 33; i++) {
        getter.applyAsInt(vm, i);
      }
      for (int i : ANY_FUELS) {
        getter.applyAsInt(vm, i);
      }
      Check.due("state", Check.wholeState(vm), before);
      Check.due("cont", vm.cont(9), other.cont(9));
      Check.due("state after cont", Check.wholeState(vm), Check.wholeState(other));
    }
  }
}
