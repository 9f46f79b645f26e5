/** Promise 3: clear empties the source, discards the compile and resets the run state. */
public final class ClearTest {
  public static void main(String[] args) {
    TinyBasicVm vm = new TinyBasicVm(8, 8, 32);
    vm.clear();
    Check.dueReset("clear of a new object", vm);
    Check.dueNoProgram("clear of a new object", vm);

    vm = Check.compiled("1 FOR I=1TO 9\n2 PRINT I\n3 GOSUB 2");
    vm.run(7);
    vm.clear();
    Check.dueReset("after clear", vm);
    Check.dueNoProgram("after clear", vm);
    Check.due("error line after clear", vm.getCompileErrorLine(), 0);
    Check.due("compile of the empty source", vm.compile(), TinyBasicVm.C_OK);
    Check.due("lines of the empty source", vm.lineCount(), 0);
    Check.due("run of the empty source", vm.run(1), TinyBasicVm.ST_HALTED);

    vm.clear();
    Check.load(vm, "\n5 BAD");
    vm.compile();
    Check.due("error line before clear", vm.getCompileErrorLine(), 2);
    vm.clear();
    Check.due("error line after clear of a failed compile", vm.getCompileErrorLine(), 0);
    Check.dueNoProgram("after clear of a failed compile", vm);

    Check.load(vm, "7 END");
    Check.due("compile after clear", vm.compile(), TinyBasicVm.C_OK);
    Check.due("only the new lines", vm.lineCount(), 1);
    Check.due("the new line", vm.lineNumberAt(0), 7);
    capacities();
    Check.finish();
  }

  private static void capacities() {
    TinyBasicVm vm = new TinyBasicVm(2, 1, 3);
    Check.load(vm, "1 END");
    vm.clear();
    Check.load(vm, "1 PRINT 1\n2 GOTO 1");
    vm.compile();
    vm.run(100);
    Check.due("outCap after clear", vm.getOutputCount(), 3);
    vm.clear();
    Check.load(vm, "1 GOSUB 1");
    vm.compile();
    vm.run(100);
    Check.due("gosubDepth after clear", vm.getStackDepth(0), 2);
    vm.clear();
    Check.load(vm, "1 FOR A=1 TO 1\n2 FOR B=1 TO 1");
    vm.compile();
    Check.due("forDepth after clear", vm.run(100), TinyBasicVm.ERR_FOR_OVERFLOW);
  }
}
