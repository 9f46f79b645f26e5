/** Promise 8: cont goes on where the fuel ended, and resuming is the same as running longer. */
public final class ContTest {
  private static final String[] PROGRAMS = {
    "1 GOTO 1",
    "1 PRINT 1\n2 PRINT 2\n3 END",
    "1 PRINT 1\n2 PRINT 2\n3 PRINT 3",
    "4PRINT I*I\n5RETURN\n1FOR I=1TO 3\n2GOSUB 4\n3NEXT I",
    "1FOR I=1TO 3\n2FOR J=I TO 3\n3PRINT I*J\n4NEXT J\n5NEXT I\n6PRINT 1/0",
    "1LET A=A*3+1\n2PRINT A\n3GOTO 1",
    "1LET A=A+1\n2GOSUB 1",
    "1FOR A=1TO 2\n2FOR B=1TO 2\n3FOR C=1TO 2\n4NEXT A\n5FOR D=1TO 1\n6NEXT C",
    "1LET A=A+1\n2IF A<500THEN 1\n3GOTO A",
    "1GOSUB 3\n2GOTO 1\n3IF A>6THEN 9\n4LET A=A+1\n5RETURN\n9END"
  };

  public static void main(String[] args) {
    refusals();
    fuelIsClamped();
    resuming();
    inSmallPieces();
    stepsAndFuel();
    Check.finish();
  }

  private static void refusals() {
    TinyBasicVm vm = new TinyBasicVm(8, 8, 32);
    Check.due("cont on a new object", vm.cont(5), TinyBasicVm.REFUSED);
    vm.compile();
    Check.due("cont before run", vm.cont(5), TinyBasicVm.REFUSED);
    vm.run(5);
    Check.due("cont after an empty program", vm.cont(5), TinyBasicVm.REFUSED);
    refusedAfter("1 END");
    refusedAfter("1 PRINT 5");
    refusedAfter("1 GOTO 5");
    refusedAfter("1 RETURN");
    refusedAfter("1 NEXT A");
    refusedAfter("1 PRINT 1/0");
    refusedAfter("1 GOSUB 1");
    refusedAfter("1 PRINT 1\n2 GOTO 1");
    refusedAfter("1FOR A=1TO 2\n2FOR B=1TO 2\n3FOR C=1TO 2\n4FOR D=1TO 2\n5FOR E=1TO 2\n"
        + "6FOR F=1TO 2\n7FOR G=1TO 2\n8FOR H=1TO 2\n9FOR I=1TO 2");
    vm = Check.compiled("1 GOTO 1");
    vm.run(5);
    vm.compile();
    Check.due("cont after compile", vm.cont(5), TinyBasicVm.REFUSED);
    vm.run(5);
    vm.put(10, 0, 0, 0);
    Check.due("cont after put", vm.cont(5), TinyBasicVm.REFUSED);
    vm.compile();
    vm.run(5);
    vm.clear();
    Check.due("cont after clear", vm.cont(5), TinyBasicVm.REFUSED);
  }

  private static void refusedAfter(String text) {
    TinyBasicVm vm = Check.compiled(text);
    vm.run(1000);
    String before = Check.wholeState(vm);
    for (int fuel : new int[] {-1, 0, 1, 1000}) {
      Check.due("cont(" + fuel + ") after " + Check.quote(text), vm.cont(fuel), TinyBasicVm.REFUSED);
    }
    Check.due("state after cont", Check.wholeState(vm), before);
  }

  private static void fuelIsClamped() {
    int[] fuels = {Integer.MIN_VALUE, -1, 0, 1, 2, 999, 1000, 1001, Integer.MAX_VALUE};
    TinyBasicVm vm = Check.compiled("7 GOTO 7");
    vm.run(3);
    int steps = 3;
    for (int fuel : fuels) {
      steps += Math.max(1, Math.min(1000, fuel));
      Check.due("cont(" + fuel + ")", vm.cont(fuel), TinyBasicVm.ST_OUT_OF_FUEL);
      Check.due("steps after cont(" + fuel + ")", vm.getSteps(), steps);
    }
  }

  private static void resuming() {
    for (String text : PROGRAMS) {
      TinyBasicVm parted = Check.compiled(text);
      TinyBasicVm whole = Check.compiled(text);
      for (int a = 1; a <= 40; a++) {
        for (int b = 1; b <= 40; b++) {
          resume(text, parted, whole, a, b);
        }
      }
      resume(text, parted, whole, 500, 500);
      resume(text, parted, whole, 1, 999);
      resume(text, parted, whole, 999, 1);
    }
  }

  private static void resume(String text, TinyBasicVm parted, TinyBasicVm whole, int a, int b) {
    if (parted.run(a) != TinyBasicVm.ST_OUT_OF_FUEL) {
      return;
    }
    String what = "run(" + a + "), cont(" + b + ") of " + Check.quote(text);
    Check.due(what, parted.cont(b), whole.run(a + b));
    Check.due(what, Check.wholeState(parted), Check.wholeState(whole));
    Check.due(what + ", cont(7)", parted.cont(7), whole.cont(7));
    Check.due(what + ", cont(7)", Check.wholeState(parted), Check.wholeState(whole));
  }

  private static void inSmallPieces() {
    for (String text : PROGRAMS) {
      TinyBasicVm parted = Check.compiled(text);
      TinyBasicVm whole = Check.compiled(text);
      int answer = parted.run(1);
      for (int steps = 1; steps < 200 && answer == TinyBasicVm.ST_OUT_OF_FUEL; steps++) {
        Check.due("run(" + steps + ") of " + Check.quote(text), whole.run(steps), answer);
        Check.due("state after " + steps, Check.wholeState(parted), Check.wholeState(whole));
        answer = parted.cont(1);
      }
    }
  }

  /** Out of fuel exactly when all fuel is used up and the program would go on. */
  private static void stepsAndFuel() {
    for (String text : PROGRAMS) {
      TinyBasicVm vm = Check.compiled(text);
      int fuel = 3;
      int answer = vm.run(3);
      for (int i = 0; i < 60; i++) {
        Check.due("steps within fuel", vm.getSteps() <= fuel, true);
        if (answer == TinyBasicVm.ST_OUT_OF_FUEL) {
          Check.due("all fuel used", vm.getSteps(), fuel);
          fuel += i % 5 + 1;
        }
        int next = vm.cont(i % 5 + 1);
        Check.due("refused when not out of fuel", next == TinyBasicVm.REFUSED, answer != TinyBasicVm.ST_OUT_OF_FUEL);
        answer = next == TinyBasicVm.REFUSED ? answer : next;
        Check.due("status", vm.getStatus(), answer);
      }
    }
  }
}
