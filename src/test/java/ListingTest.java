/** Promises 5 and 6: the line of the compile error, and the program's lines in order. */
public final class ListingTest {
  public static void main(String[] args) {
    errorLine();
    errorLineStays();
    lines();
    everyOrder();
    Check.finish();
  }

  private static void errorLine() {
    TinyBasicVm vm = new TinyBasicVm(8, 8, 32);
    Check.due("before any compile", vm.getCompileErrorLine(), 0);
    for (int blanks = 0; blanks < 250; blanks++) {
      vm.clear();
      Check.load(vm, "\n".repeat(blanks) + "9");
      vm.compile();
      Check.due("behind " + blanks + " blank lines", vm.getCompileErrorLine(), blanks + 1);
    }
    vm.put(69, 78, 68, 0);
    Check.due("after a taken put", vm.getCompileErrorLine(), 0);
    vm.compile();
    Check.due("after a good compile", vm.getCompileErrorLine(), 0);
  }

  private static void errorLineStays() {
    TinyBasicVm vm = Check.loaded("1 END\n\nX");
    vm.compile();
    vm.run(5);
    vm.cont(5);
    vm.put(0, 0, 0, 0);
    vm.put(127, 0, 0, 0);
    vm.lineNumberAt(0);
    vm.getStatus();
    Check.due("after refused calls", vm.getCompileErrorLine(), 3);
    vm.compile();
    Check.due("after the same compile", vm.getCompileErrorLine(), 3);
    vm.clear();
    Check.due("after clear", vm.getCompileErrorLine(), 0);
  }

  private static void lines() {
    TinyBasicVm vm = Check.loaded("300 END\n20 END\n1 END\n32767 END");
    Check.due("lineCount before compile", vm.lineCount(), 0);
    Check.due("lineNumberAt(0) before compile", vm.lineNumberAt(0), -1);
    vm.compile();
    Check.due("lineCount", vm.lineCount(), 4);
    int[] order = {1, 20, 300, 32767};
    for (int k = 0; k < 4; k++) {
      Check.due("lineNumberAt(" + k + ")", vm.lineNumberAt(k), order[k]);
    }
    for (int k : new int[] {Integer.MIN_VALUE, -2, -1, 4, 5, 15, 16, 17, 255, 256, Integer.MAX_VALUE}) {
      Check.due("lineNumberAt(" + k + ")", vm.lineNumberAt(k), -1);
    }
    vm.run(5);
    Check.due("lineCount after run", vm.lineCount(), 4);
    String before = Check.wholeState(vm);
    vm.lineNumberAt(2);
    vm.lineCount();
    vm.getCompileErrorLine();
    Check.due("state after listing", Check.wholeState(vm), before);
    vm.put(10, 48, 0, 0);
    Check.due("lineCount after put", vm.lineCount(), 0);
    vm.compile();
    Check.due("lineCount after a failed compile", vm.lineCount(), 0);
    Check.due("lineNumberAt(0) after a failed compile", vm.lineNumberAt(0), -1);
  }

  /** Sixteen lines in orders that step through them by every odd stride. */
  private static void everyOrder() {
    for (int stride = 1; stride < 16; stride += 2) {
      StringBuilder text = new StringBuilder();
      for (int i = 0; i < 16; i++) {
        int place = i * stride % 16;
        text.append(place * 7 + 3).append(" PRINT ").append(place).append('\n');
      }
      TinyBasicVm vm = Check.compiled(text.toString());
      Check.due("lines of stride " + stride, vm.lineCount(), 16);
      for (int k = 0; k < 16; k++) {
        Check.due("line " + k + " of stride " + stride, vm.lineNumberAt(k), k * 7 + 3);
      }
      vm.run(100);
      Check.due("output of stride " + stride, Check.outputOf(vm), "0 1 2 3 4 5 6 7 8 9 10 11 12 13 14 15");
    }
  }
}
