/** Promise 1: what a new object answers, and the clamping of the three capacities. */
public final class ConstructionTest {
  private static final int[] VALUES = {
    Integer.MIN_VALUE, -1, 0, 1, 2, 7, 8, 9, 31, 32, 33, 1000, Integer.MAX_VALUE
  };

  public static void main(String[] args) {
    newObject();
    for (int value : VALUES) {
      gosubDepth(value);
      forDepth(value);
      outCap(value);
    }
    capacitiesStay();
    Check.finish();
  }

  private static void newObject() {
    TinyBasicVm vm = new TinyBasicVm(3, 3, 3);
    Check.dueReset("new object", vm);
    Check.due("getCompileErrorLine()", vm.getCompileErrorLine(), 0);
    Check.dueNoProgram("new object", vm);
  }

  private static int clamped(int value, int high) {
    return Math.max(1, Math.min(high, value));
  }

  private static void gosubDepth(int value) {
    TinyBasicVm vm = new TinyBasicVm(value, 3, 5);
    Check.load(vm, "1 GOSUB 1");
    vm.compile();
    Check.due("gosubDepth " + value + ": run", vm.run(100), TinyBasicVm.ERR_GOSUB_OVERFLOW);
    Check.due("gosubDepth " + value, vm.getStackDepth(TinyBasicVm.STACK_GOSUB), clamped(value, 8));
  }

  private static void forDepth(int value) {
    TinyBasicVm vm = new TinyBasicVm(3, value, 5);
    StringBuilder text = new StringBuilder();
    for (int i = 0; i < 9; i++) {
      text.append(i + 1).append("FOR ").append((char) ('A' + i)).append("=1TO 2\n");
    }
    Check.load(vm, text.toString());
    vm.compile();
    Check.due("forDepth " + value + ": run", vm.run(100), TinyBasicVm.ERR_FOR_OVERFLOW);
    Check.due("forDepth " + value, vm.getStackDepth(TinyBasicVm.STACK_FOR), clamped(value, 8));
    Check.due("forDepth " + value + ": stop line", vm.getStopLine(), clamped(value, 8) + 1);
  }

  private static void outCap(int value) {
    TinyBasicVm vm = new TinyBasicVm(3, 3, value);
    Check.load(vm, "1 PRINT 7\n2 GOTO 1");
    vm.compile();
    Check.due("outCap " + value + ": run", vm.run(1000), TinyBasicVm.ERR_OUTPUT_FULL);
    Check.due("outCap " + value, vm.getOutputCount(), clamped(value, 32));
  }

  private static void capacitiesStay() {
    TinyBasicVm vm = new TinyBasicVm(2, 2, 2);
    for (int round = 0; round < 3; round++) {
      vm.clear();
      Check.load(vm, "1 GOSUB 1");
      vm.compile();
      vm.run(9);
      Check.due("round " + round + ": gosubDepth", vm.getStackDepth(0), 2);
      vm.clear();
      Check.load(vm, "1 PRINT 7\n2 GOTO 1");
      vm.compile();
      vm.run(9);
      Check.due("round " + round + ": outCap", vm.getOutputCount(), 2);
      vm.clear();
      Check.load(vm, "1FOR A=1TO 2\n2FOR B=1TO 2\n3FOR C=1TO 2");
      vm.compile();
      Check.due("round " + round + ": run", vm.run(9), TinyBasicVm.ERR_FOR_OVERFLOW);
      Check.due("round " + round + ": forDepth", vm.getStackDepth(1), 2);
    }
  }
}
