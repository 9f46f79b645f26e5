/** Promises 9 to 13: what the getters answer, inside and outside their ranges, and that they change nothing. */
public final class GettersTest {
  private static final int[] FAR = {Integer.MIN_VALUE, -1000, -2, -1, 26, 27, 32, 33, 255, 1000, Integer.MAX_VALUE};

  public static void main(String[] args) {
    statusAndStopLine();
    steps();
    variables();
    output();
    stacks();
    nothingChanges();
    Check.finish();
  }

  private static void dueStop(TinyBasicVm vm, String when, int status, int stopLine) {
    Check.due(when + ": getStatus()", vm.getStatus(), status);
    Check.due(when + ": getStopLine()", vm.getStopLine(), stopLine);
  }

  private static void dueRun(String text, int fuel, int status, int stopLine) {
    TinyBasicVm vm = new TinyBasicVm(1, 1, 1);
    Check.load(vm, text);
    vm.compile();
    dueStop(vm, "before run of " + Check.quote(text), TinyBasicVm.ST_IDLE, -1);
    vm.run(fuel);
    dueStop(vm, "after run of " + Check.quote(text), status, stopLine);
    vm.cont(status == TinyBasicVm.ST_OUT_OF_FUEL ? 1 : 1000);
    if (status != TinyBasicVm.ST_OUT_OF_FUEL) {
      dueStop(vm, "after a refused cont", status, stopLine);
    }
    vm.compile();
    dueStop(vm, "after compile", TinyBasicVm.ST_IDLE, -1);
  }

  private static void statusAndStopLine() {
    dueRun("", 9, TinyBasicVm.ST_HALTED, -1);
    dueRun("5 LET A=1", 9, TinyBasicVm.ST_HALTED, -1);
    dueRun("5 LET A=1\n6 END", 9, TinyBasicVm.ST_HALTED, 6);
    dueRun("5 LET A=1\n6 END", 1, TinyBasicVm.ST_OUT_OF_FUEL, 6);
    dueRun("5 GOTO 7\n6 END\n7 GOTO 5", 1, TinyBasicVm.ST_OUT_OF_FUEL, 7);
    dueRun("5 GOTO 7\n6 END\n7 GOTO 5", 2, TinyBasicVm.ST_OUT_OF_FUEL, 5);
    dueRun("5 GOTO 6", 9, TinyBasicVm.ERR_UNDEFINED_LINE, 5);
    dueRun("5 RETURN", 9, TinyBasicVm.ERR_RETURN_WITHOUT_GOSUB, 5);
    dueRun("5 NEXT A", 9, TinyBasicVm.ERR_NEXT_WITHOUT_FOR, 5);
    dueRun("5 LET A=1/0", 9, TinyBasicVm.ERR_DIV_ZERO, 5);
    dueRun("5 GOSUB 6\n6 GOSUB 5", 9, TinyBasicVm.ERR_GOSUB_OVERFLOW, 6);
    dueRun("5 FOR A=1 TO 2\n6 FOR B=1 TO 2", 9, TinyBasicVm.ERR_FOR_OVERFLOW, 6);
    dueRun("5 PRINT 1\n6 PRINT 2", 9, TinyBasicVm.ERR_OUTPUT_FULL, 6);
    TinyBasicVm vm = Check.compiled("5 GOTO 6\n6 GOTO 7\n7 PRINT 1");
    vm.run(1);
    dueStop(vm, "out of fuel", TinyBasicVm.ST_OUT_OF_FUEL, 6);
    vm.cont(1);
    dueStop(vm, "out of fuel again", TinyBasicVm.ST_OUT_OF_FUEL, 7);
    vm.cont(1);
    dueStop(vm, "halted by cont", TinyBasicVm.ST_HALTED, -1);
    vm.run(1);
    vm.put(32, 0, 0, 0);
    dueStop(vm, "after put", TinyBasicVm.ST_IDLE, -1);
    vm.run(1);
    dueStop(vm, "after a refused run", TinyBasicVm.ST_IDLE, -1);
  }

  private static void steps() {
    TinyBasicVm vm = Check.compiled("1 LET A=1\n2 IF A=2 THEN 9\n3 GOSUB 5\n4 END\n5 FOR I=1 TO 2\n6 NEXT I\n7 RETURN");
    Check.due("steps before run", vm.getSteps(), 0);
    vm.run(1000);
    Check.due("steps of the whole run", vm.getSteps(), 8);
    for (int fuel = 1; fuel <= 10; fuel++) {
      vm.run(fuel);
      Check.due("steps of run(" + fuel + ")", vm.getSteps(), Math.min(fuel, 8));
    }
    vm.run(2);
    vm.cont(3);
    Check.due("steps of run(2), cont(3)", vm.getSteps(), 5);
    vm.cont(1000);
    Check.due("steps at the end", vm.getSteps(), 8);
    vm.cont(1000);
    Check.due("steps after a refused cont", vm.getSteps(), 8);
    vm.compile();
    Check.due("steps after compile", vm.getSteps(), 0);
    vm.run(4);
    vm.clear();
    Check.due("steps after clear", vm.getSteps(), 0);
    for (String failing : new String[] {"1 RETURN", "1 NEXT A", "1 GOTO 5", "1 PRINT 1/0", "1 END"}) {
      vm = Check.compiled(failing);
      vm.run(9);
      Check.due("steps of " + Check.quote(failing), vm.getSteps(), 1);
    }
  }

  private static void variables() {
    TinyBasicVm vm = Check.compiled("1 LET A=11\n2 LET M=-12\n3 LET Z=13");
    vm.run(9);
    for (int v = 0; v < 26; v++) {
      Check.due("getVar(" + v + ")", vm.getVar(v), v == 0 ? 11 : v == 12 ? -12 : v == 25 ? 13 : 0);
    }
    for (int v : FAR) {
      Check.due("getVar(" + v + ")", vm.getVar(v), 0);
    }
    Check.due("getVar(65)", vm.getVar('A'), 0);
    vm.run(1);
    Check.due("Z of a shorter run", vm.getVar(25), 0);
    vm.compile();
    Check.due("A after compile", vm.getVar(0), 0);
  }

  private static void output() {
    TinyBasicVm vm = new TinyBasicVm(1, 1, 4);
    Check.load(vm, "1 LET A=A+1\n2 PRINT A*A\n3 GOTO 1");
    vm.compile();
    for (int count = 0; count <= 4; count++) {
      vm.run(count * 3 + 1);
      Check.due("getOutputCount()", vm.getOutputCount(), count);
      for (int i = 0; i < 40; i++) {
        Check.due("getOutput(" + i + ") of " + count, vm.getOutput(i), i < count ? (i + 1) * (i + 1) : 0);
      }
      for (int i : FAR) {
        Check.due("getOutput(" + i + ") of " + count, vm.getOutput(i), 0);
      }
    }
    Check.due("run past the output", vm.run(1000), TinyBasicVm.ERR_OUTPUT_FULL);
    Check.due("getOutputCount() when full", vm.getOutputCount(), 4);
    Check.due("getOutput when full", Check.outputOf(vm), "1 4 9 16");
    vm.compile();
    Check.due("getOutputCount() after compile", vm.getOutputCount(), 0);
    Check.due("getOutput(0) after compile", vm.getOutput(0), 0);
  }

  private static void stacks() {
    TinyBasicVm vm = Check.compiled("1 FOR A=1 TO 5\n2 FOR B=1 TO 5\n3 GOSUB 4\n4 GOSUB 5\n5 GOSUB 6\n6 END");
    int[] gosubs = {0, 0, 1, 2, 3, 3};
    int[] fors = {1, 2, 2, 2, 2, 2};
    for (int fuel = 1; fuel <= 6; fuel++) {
      vm.run(fuel);
      Check.due("GOSUB entries after " + fuel, vm.getStackDepth(TinyBasicVm.STACK_GOSUB), gosubs[fuel - 1]);
      Check.due("FOR frames after " + fuel, vm.getStackDepth(TinyBasicVm.STACK_FOR), fors[fuel - 1]);
    }
    for (int kind : new int[] {Integer.MIN_VALUE, -2, -1, 2, 3, 8, 9, 256, 257, Integer.MAX_VALUE}) {
      Check.due("getStackDepth(" + kind + ")", vm.getStackDepth(kind), 0);
    }
    vm.compile();
    Check.due("GOSUB entries after compile", vm.getStackDepth(0), 0);
    Check.due("FOR frames after compile", vm.getStackDepth(1), 0);
  }

  private static void nothingChanges() {
    TinyBasicVm vm = Check.compiled("1 FOR A=1 TO 9\n2 GOSUB 3\n3 PRINT A\n4 NEXT A");
    vm.run(9);
    String before = Check.wholeState(vm);
    for (int round = 0; round < 3; round++) {
      for (int i : FAR) {
        vm.getVar(i);
        vm.getOutput(i);
        vm.getStackDepth(i);
        vm.lineNumberAt(i);
      }
      Check.due("state after the getters", Check.wholeState(vm), before);
    }
    TinyBasicVm other = Check.compiled("1 FOR A=1 TO 9\n2 GOSUB 3\n3 PRINT A\n4 NEXT A");
    other.run(9);
    Check.due("cont after the getters", vm.cont(5), other.cont(5));
    Check.due("state after cont", Check.wholeState(vm), Check.wholeState(other));
  }
}
