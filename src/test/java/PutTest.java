/** Promise 2: what put takes, what it refuses, and what a taken and a refused put leave. */
public final class PutTest {
  public static void main(String[] args) {
    everyCharacter();
    zeroEndsTheGroup();
    orderOfCharacters();
    sourceLimit();
    takenPutDiscards();
    refusedPutKeeps();
    Check.finish();
  }

  private static boolean allowed(int c) {
    return c == 10 || c >= 32 && c <= 126;
  }

  private static void everyCharacter() {
    for (int c = -300; c <= 300; c++) {
      putInEachPlace(c);
    }
    int[] far = {Integer.MIN_VALUE, Integer.MAX_VALUE, 65536 + 65, -65, 256 + 65, 1 << 16, (1 << 16) + 10};
    for (int c : far) {
      putInEachPlace(c);
    }
  }

  private static void putInEachPlace(int c) {
    TinyBasicVm vm = new TinyBasicVm(1, 1, 1);
    Check.due("put(" + c + ",65,65,65)", vm.put(c, 65, 65, 65), allowed(c));
    Check.due("put(65," + c + ",65,65)", vm.put(65, c, 65, 65), allowed(c) || c == 0);
    Check.due("put(65,65," + c + ",65)", vm.put(65, 65, c, 65), allowed(c) || c == 0);
    Check.due("put(65,65,65," + c + ")", vm.put(65, 65, 65, c), allowed(c) || c == 0);
  }

  private static void zeroEndsTheGroup() {
    TinyBasicVm vm = new TinyBasicVm(1, 1, 1);
    Check.due("put(0,0,0,0)", vm.put(0, 0, 0, 0), false);
    Check.due("put(0,49,49,49)", vm.put(0, 49, 49, 49), false);
    Check.due("put(49,0,-5,999)", vm.put(49, 0, -5, 999), true);
    Check.due("put(32,69,0,7)", vm.put(32, 69, 0, 7), true);
    Check.due("put(78,0,78,78)", vm.put(78, 0, 78, 78), true);
    Check.due("put(68,10,50,0)", vm.put(68, 10, 50, 0), true);
    Check.due("put(69,78,68,0)", vm.put(69, 78, 68, 0), true);
    Check.due("compile", vm.compile(), TinyBasicVm.C_OK);
    Check.due("lineCount", vm.lineCount(), 2);
  }

  private static void orderOfCharacters() {
    for (int size = 1; size <= 4; size++) {
      TinyBasicVm vm = new TinyBasicVm(1, 1, 1);
      String text = "12 PRINT 3456";
      for (int i = 0; i < text.length(); i += size) {
        int[] c = new int[4];
        for (int j = 0; j < size && i + j < text.length(); j++) {
          c[j] = text.charAt(i + j);
        }
        Check.due("put in groups of " + size, vm.put(c[0], c[1], c[2], c[3]), true);
      }
      Check.due("compile, groups of " + size, vm.compile(), TinyBasicVm.C_OK);
      Check.due("number, groups of " + size, vm.lineNumberAt(0), 12);
      vm.run(5);
      Check.due("output, groups of " + size, vm.getOutput(0), 3456);
    }
  }

  private static void sourceLimit() {
    for (int length = 250; length <= 256; length++) {
      for (int n = 1; n <= 4; n++) {
        TinyBasicVm vm = new TinyBasicVm(1, 1, 1);
        for (int i = 0; i < length; i++) {
          Check.due("filling", vm.put(10, 0, 0, 0), true);
        }
        boolean taken = vm.put(10, n > 1 ? 10 : 0, n > 2 ? 10 : 0, n > 3 ? 10 : 0);
        Check.due(n + " characters behind " + length, taken, length + n <= 256);
      }
    }
    TinyBasicVm vm = new TinyBasicVm(1, 1, 1);
    Check.load(vm, "\n".repeat(254));
    Check.due("four behind 254", vm.put(49, 69, 78, 68), false);
    Check.due("two behind 254", vm.put(49, 65, 0, 68), true);
    Check.due("one behind 256", vm.put(10, 0, 0, 0), false);
    Check.due("compile of a full source", vm.compile(), TinyBasicVm.C_SYNTAX);
    Check.due("error line of a full source", vm.getCompileErrorLine(), 255);
    vm.clear();
    Check.due("256 after clear", Check.load(vm, "\n".repeat(256)), true);
    Check.due("compile of 256 newlines", vm.compile(), TinyBasicVm.C_OK);
  }

  private static void takenPutDiscards() {
    TinyBasicVm vm = Check.compiled("1 FOR I=1TO 9\n2 PRINT I\n3 GOSUB 2");
    vm.run(7);
    Check.due("put of a space", vm.put(32, 0, 0, 0), true);
    Check.dueReset("after put", vm);
    Check.dueNoProgram("after put", vm);
    Check.due("compile again", vm.compile(), TinyBasicVm.C_OK);
    Check.due("lines again", vm.lineCount(), 3);
    vm = Check.loaded("\n1 OOPS");
    vm.compile();
    Check.due("error line before put", vm.getCompileErrorLine(), 2);
    vm.put(10, 0, 0, 0);
    Check.due("error line after put", vm.getCompileErrorLine(), 0);
  }

  private static void refusedPutKeeps() {
    TinyBasicVm vm = Check.compiled("1 FOR I=1TO 9\n2 PRINT I\n3 GOSUB 2");
    vm.run(7);
    String before = Check.wholeState(vm);
    Check.due("put(0,..)", vm.put(0, 49, 49, 49), false);
    Check.due("put of a bad last", vm.put(10, 10, 10, 127), false);
    Check.due("put of a bad first", vm.put(9, 10, 10, 10), false);
    Check.due("put of a negative", vm.put(10, -1, 0, 0), false);
    Check.due("put of a bad third and last", vm.put(10, 10, 127, 0), false);
    Check.due("put of a bad second and last", vm.put(10, 127, 0, 0), false);
    Check.due("put of a bad character before a 0", vm.put(127, 0, 10, 10), false);
    Check.due("state after refused puts", Check.wholeState(vm), before);
    Check.due("cont after refused puts", vm.cont(1), TinyBasicVm.ST_OUT_OF_FUEL);
    Check.due("steps after refused puts", vm.getSteps(), 8);
    Check.due("run after refused puts", vm.run(2), TinyBasicVm.ST_OUT_OF_FUEL);
    Check.due("compile after refused puts", vm.compile(), TinyBasicVm.C_OK);
    Check.due("lines after refused puts", vm.lineCount(), 3);
    vm = Check.loaded("\n\n1 OOPS");
    vm.compile();
    vm.put(127, 0, 0, 0);
    Check.due("error line after a refused put", vm.getCompileErrorLine(), 3);
    vm = new TinyBasicVm(1, 1, 1);
    Check.load(vm, "1 GOTO 1" + "\n".repeat(248));
    vm.compile();
    vm.run(5);
    Check.due("put into a full source", vm.put(32, 0, 0, 0), false);
    Check.due("steps after it", vm.getSteps(), 5);
    Check.due("cont after it", vm.cont(5), TinyBasicVm.ST_OUT_OF_FUEL);
  }
}
