/** The boundary sentences of promises 1 to 6, one method each. */
public final class ObjectEdgesTest {
  private static final int OK = TinyBasicVm.C_OK;
  private static final int SYNTAX = TinyBasicVm.C_SYNTAX;
  private static final int DUP = TinyBasicVm.C_DUP_LINE;
  private static final int MANY = TinyBasicVm.C_TOO_MANY_LINES;
  private static final int LONG = TinyBasicVm.C_LINE_TOO_LONG;
  private static final int FUEL = TinyBasicVm.ST_OUT_OF_FUEL;
  private static final int[] ANY_INTS = {
    Integer.MIN_VALUE, Integer.MIN_VALUE + 1, -1000, -1, 0, 1, 2, 7, 8, 9, 31, 32, 33, 255, 256, 257, 65537, Integer.MAX_VALUE
  };

  // Run with 11 statements of fuel, it has variables, output and entries on both stacks, and would go on.
  private static final String BUSY = "1LET Q=5\n2PRINT Q\n3FOR A=1TO 3\n4GOSUB 2";

  public static void main(String[] args) {
    constructorTakesAnyInts();
    capacitiesAreClamped();
    capacitiesNeverChange();
    newObject();
    firstZeroEndsTheGroup();
    putOfNothing();
    putOfABadCharacter();
    putBeyondTheRoom();
    takenPutResets();
    refusedPutKeeps();
    clearAlwaysSucceeds();
    clearEmptiesAndResets();
    clearKeepsTheCapacities();
    compileResetsTheRunState();
    compileKeepsTheSource();
    firstErrorEndsTheCompile();
    lineTooLong();
    blankLineIsSkipped();
    tooManyLines();
    syntaxErrors();
    duplicateLines();
    orderOfTheChecks();
    errorDiscardsTheProgram();
    emptyProgram();
    sameSourceAgain();
    errorLine();
    errorLineIsZero();
    lineCount();
    lineNumberAt();
    lineNumberOutside();
    errorLineChangesNothing();
    listingChangesNothing();
    Check.finish();
  }

  private static TinyBasicVm busy(TinyBasicVm vm) {
    Check.compiled(vm, BUSY);
    Check.due("run of a busy program", vm.run(11), FUEL);
    Check.due("its output", Check.outputOf(vm), "5 5 5 5");
    Check.dueStacks("its stacks", vm, 3, 1);
    return vm;
  }

  private static TinyBasicVm busy() {
    return busy(new TinyBasicVm(8, 8, 32));
  }

  private static String ends(int count) {
    StringBuilder text = new StringBuilder();
    for (int i = 1; i <= count; i++) {
      text.append(i).append("END\n");
    }
    return text.toString();
  }

  // ---- promise 1 ----

  private static void constructorTakesAnyInts() {
    Check.sentence("Promise 1: `TinyBasicVm(gosubDepth, forDepth, outCap)` accepts any int arguments.");
    for (int a : ANY_INTS) {
      for (int b : ANY_INTS) {
        for (int c : ANY_INTS) {
          TinyBasicVm vm = new TinyBasicVm(a, b, c);
          Check.due("status of a new object", vm.getStatus(), TinyBasicVm.ST_IDLE);
        }
      }
    }
  }

  private static int clamped(int value, int high) {
    return Math.max(1, Math.min(high, value));
  }

  private static void dueCapacities(String when, TinyBasicVm vm, int gosubDepth, int forDepth, int outCap) {
    vm.clear();
    Check.compiled(vm, "1GOSUB 1");
    Check.due(when + ": GOSUB without end", vm.run(100), TinyBasicVm.ERR_GOSUB_OVERFLOW);
    Check.dueStacks(when, vm, gosubDepth, 0);
    vm.clear();
    Check.compiled(vm, "1FOR A=1TO 2\n2FOR B=1TO 2\n3FOR C=1TO 2\n4FOR D=1TO 2\n5FOR E=1TO 2\n6FOR F=1TO 2\n7FOR G=1TO 2\n"
        + "8FOR H=1TO 2\n9FOR I=1TO 2");
    Check.due(when + ": nine loops", vm.run(100), TinyBasicVm.ERR_FOR_OVERFLOW);
    Check.dueStacks(when, vm, 0, forDepth);
    vm.clear();
    Check.compiled(vm, "1PRINT 1\n2GOTO 1");
    Check.due(when + ": PRINT without end", vm.run(100), TinyBasicVm.ERR_OUTPUT_FULL);
    Check.due(when + ": values printed", vm.getOutputCount(), outCap);
    vm.clear();
  }

  private static void capacitiesAreClamped() {
    Check.sentence("gosubDepth and forDepth are each clamped into 1..8; outCap is clamped into 1..32.");
    for (int value : ANY_INTS) {
      dueCapacities("gosubDepth " + value, new TinyBasicVm(value, 3, 5), clamped(value, 8), 3, 5);
      dueCapacities("forDepth " + value, new TinyBasicVm(3, value, 5), 3, clamped(value, 8), 5);
      dueCapacities("outCap " + value, new TinyBasicVm(3, 4, value), 3, 4, clamped(value, 32));
    }
    for (int value = 1; value <= 8; value++) {
      dueCapacities("all " + value, new TinyBasicVm(value, 9 - value, 4 * value), value, 9 - value, 4 * value);
    }
  }

  private static void capacitiesNeverChange() {
    Check.sentence("These clamped values are the gosubDepth, forDepth and outCap used everywhere below and never change afterwards.");
    TinyBasicVm vm = new TinyBasicVm(-5, 100, 2);
    for (int round = 0; round < 4; round++) {
      dueCapacities("round " + round, vm, 1, 8, 2);
      Check.load(vm, "1OOPS");
      vm.compile();
      vm.put(0, 0, 0, 0);
    }
  }

  private static void newObject() {
    Check.sentence("The object starts with empty source, no successful compile, and a reset run state");
    for (int size : ANY_INTS) {
      TinyBasicVm vm = new TinyBasicVm(size, size, size);
      Check.dueReset("new object", vm);
      Check.due("getCompileErrorLine()", vm.getCompileErrorLine(), 0);
      Check.dueNoProgram("new object", vm);
      for (int fuel : ANY_INTS) {
        Check.due("run(" + fuel + ")", vm.run(fuel), TinyBasicVm.REFUSED);
        Check.due("cont(" + fuel + ")", vm.cont(fuel), TinyBasicVm.REFUSED);
      }
      Check.dueReset("after refused calls", vm);
      Check.due("256 characters have room", Check.load(vm, "\n".repeat(256)), true);
    }
    TinyBasicVm vm = new TinyBasicVm(1, 1, 1);
    Check.due("compile of the empty source", vm.compile(), OK);
    Check.due("lines of the empty source", vm.lineCount(), 0);
  }

  // ---- promise 2 ----

  private static void firstZeroEndsTheGroup() {
    Check.sentence("Promise 2: The first argument that is 0 ends the group; it and all later arguments are ignored, whatever their values.");
    for (int ignored : new int[] {Integer.MIN_VALUE, -1, 0, 9, 49, 127, Integer.MAX_VALUE}) {
      TinyBasicVm vm = new TinyBasicVm(8, 8, 32);
      Check.due("put('7',0,..)", vm.put('7', 0, ignored, ignored), true);
      Check.due("put('E','N',0,..)", vm.put('E', 'N', 0, ignored), true);
      Check.due("put('D',0,0,..)", vm.put('D', 0, 0, ignored), true);
      Check.due("put(10,'8','E',0)", vm.put(10, '8', 'E', 0), true);
      Check.due("put('N','D',0,..)", vm.put('N', 'D', 0, ignored), true);
      Check.due("put(0,..)", vm.put(0, ignored, ignored, ignored), false);
      Check.due("compile", vm.compile(), OK);
      Check.due("lineCount()", vm.lineCount(), 2);
      Check.due("lineNumberAt(0)", vm.lineNumberAt(0), 7);
      Check.due("lineNumberAt(1)", vm.lineNumberAt(1), 8);
    }
    // Ignored arguments take no room.
    TinyBasicVm vm = Check.loaded("\n".repeat(255));
    Check.due("one character and three ignored ones", vm.put(10, 0, 10, 10), true);
    Check.due("no room is left", vm.put(10, 0, 0, 0), false);
  }

  private static void dueRefusedPut(TinyBasicVm vm, int c1, int c2, int c3, int c4) {
    String before = Check.wholeState(vm);
    Check.due("put(" + c1 + "," + c2 + "," + c3 + "," + c4 + ")", vm.put(c1, c2, c3, c4), false);
    Check.due("state after a refused put", Check.wholeState(vm), before);
  }

  private static void putOfNothing() {
    Check.sentence("refused if n == 0 (that is, c1 is 0)");
    TinyBasicVm vm = busy();
    dueRefusedPut(vm, 0, 0, 0, 0);
    dueRefusedPut(vm, 0, 65, 65, 65);
    dueRefusedPut(vm, 0, 0, 0, 65);
    dueRefusedPut(vm, 0, -1, 127, Integer.MIN_VALUE);
    Check.due("cont", vm.cont(1), FUEL);
    dueRefusedPut(Check.loaded("\n".repeat(256)), 0, 0, 0, 0);
    dueRefusedPut(new TinyBasicVm(1, 1, 1), 0, 0, 0, 0);
  }

  private static void putOfABadCharacter() {
    Check.sentence("refused if one of those n characters is neither 10 nor in 32..126 (negative values included)");
    int[] bad = {
      Integer.MIN_VALUE, -256, -65, -10, -1, 1, 8, 9, 11, 12, 13, 30, 31, 127, 128, 160, 255, 256, 266, 288, 321, 65536 + 10,
      65536 + 65, 1 << 24, Integer.MAX_VALUE
    };
    TinyBasicVm vm = busy();
    for (int c : bad) {
      dueRefusedPut(vm, c, 0, 0, 0);
      dueRefusedPut(vm, c, 65, 65, 65);
      dueRefusedPut(vm, 65, c, 0, 0);
      dueRefusedPut(vm, 65, c, 65, 65);
      dueRefusedPut(vm, 65, 65, c, 0);
      dueRefusedPut(vm, 65, 65, c, 65);
      dueRefusedPut(vm, 65, 65, 65, c);
      dueRefusedPut(vm, c, c, c, c);
    }
    // Nothing of a refused group was appended.
    Check.due("compile of the source as it was", vm.compile(), OK);
    for (int c = 1; c <= 300; c++) {
      boolean good = c == 10 || c >= 32 && c <= 126;
      Check.due("put(" + c + ",0,0,0)", new TinyBasicVm(1, 1, 1).put(c, 0, 0, 0), good);
      Check.due("put(10,10,10," + c + ")", new TinyBasicVm(1, 1, 1).put(10, 10, 10, c), good);
    }
  }

  private static void putBeyondTheRoom() {
    Check.sentence("refused if the current source length + n > 256");
    for (int length = 252; length <= 256; length++) {
      for (int n = 1; n <= 4; n++) {
        String program = "1GOTO 1";
        TinyBasicVm vm = Check.compiled(program + " ".repeat(30) + "\n".repeat(length - 37));
        vm.run(9);
        String before = Check.wholeState(vm);
        boolean room = length + n <= 256;
        Check.due(n + " behind " + length, vm.put(10, n > 1 ? 10 : 0, n > 2 ? 10 : 0, n > 3 ? 10 : 0), room);
        Check.due("status", vm.getStatus(), room ? TinyBasicVm.ST_IDLE : FUEL);
        if (!room) {
          Check.due("state after a refused put", Check.wholeState(vm), before);
          Check.due("what has room is taken after it", Check.load(vm, "\n".repeat(256 - length)), true);
          Check.due("and nothing more", vm.put(10, 0, 0, 0), false);
        }
      }
    }
  }

  private static void takenPutResets() {
    Check.sentence("Otherwise it appends .., discards any successful compile .., resets the run state, sets the compile error line to 0");
    for (int c : new int[] {10, 32, 126}) {
      TinyBasicVm vm = busy();
      Check.due("put(" + c + ",0,0,0)", vm.put(c, 0, 0, 0), true);
      Check.dueReset("after put", vm);
      Check.dueNoProgram("after put", vm);
      vm = Check.loaded("\n\n1OOPS");
      Check.due("compile", vm.compile(), SYNTAX);
      Check.due("error line", vm.getCompileErrorLine(), 3);
      Check.due("put(" + c + ",0,0,0)", vm.put(c, 0, 0, 0), true);
      Check.due("error line after put", vm.getCompileErrorLine(), 0);
    }
    TinyBasicVm vm = busy();
    Check.load(vm, "\n9END");
    Check.due("compile with the appended line", vm.compile(), OK);
    Check.due("lines with the appended one", vm.lineCount(), 5);
    Check.due("run is allowed again", vm.run(1), FUEL);
  }

  private static void refusedPutKeeps() {
    Check.sentence("A refused put keeps the source, any compile result, the compile error line and the whole run state.");
    TinyBasicVm vm = busy();
    TinyBasicVm other = busy();
    dueRefusedPut(vm, 0, 1, 2, 3);
    dueRefusedPut(vm, 65, 65, 65, 127);
    Check.due("cont goes on", vm.cont(7), other.cont(7));
    Check.due("as if there was no put", Check.wholeState(vm), Check.wholeState(other));
    dueRefusedPut(vm, -1, 0, 0, 0);
    Check.due("run is not refused", vm.run(3), other.run(3));
    Check.due("as if there was no put", Check.wholeState(vm), Check.wholeState(other));
    dueRefusedPut(vm, 10, 31, 0, 0);
    Check.due("compile", vm.compile(), OK);
    Check.due("lines", vm.lineCount(), 4);
    vm = Check.loaded("1END\n2OOPS");
    vm.compile();
    dueRefusedPut(vm, 127, 0, 0, 0);
    Check.due("error line", vm.getCompileErrorLine(), 2);
    Check.due("run stays refused", vm.run(5), TinyBasicVm.REFUSED);
    vm = new TinyBasicVm(1, 1, 1);
    dueRefusedPut(vm, 9, 0, 0, 0);
    Check.due("run of a new object stays refused", vm.run(5), TinyBasicVm.REFUSED);
  }

  // ---- promise 3 ----

  private static void dueCleared(String when, TinyBasicVm vm) {
    vm.clear();
    Check.dueReset(when, vm);
    Check.dueNoProgram(when, vm);
    Check.due(when + ": error line", vm.getCompileErrorLine(), 0);
  }

  private static void clearAlwaysSucceeds() {
    Check.sentence("Promise 3: `clear()` always succeeds.");
    TinyBasicVm vm = new TinyBasicVm(8, 8, 32);
    dueCleared("clear of a new object", vm);
    dueCleared("clear after clear", vm);
    Check.load(vm, "1END");
    dueCleared("clear before compile", vm);
    Check.load(vm, "\n".repeat(256));
    dueCleared("clear of a full source", vm);
    vm.compile();
    dueCleared("clear of an empty program", vm);
    for (String text : new String[] {"1END", "1LET A=5", "1GOTO 9", "1RETURN", "1NEXT A", "1PRINT 1/0", "1GOSUB 1", "1GOTO 1"}) {
      Check.compiled(vm, text);
      vm.run(100);
      dueCleared("clear after a run of " + text, vm);
    }
    Check.load(vm, "1OOPS");
    vm.compile();
    dueCleared("clear after a failed compile", vm);
  }

  private static void clearEmptiesAndResets() {
    Check.sentence("It empties the source, discards any compile .., resets the run state, and sets the compile error line to 0.");
    TinyBasicVm vm = busy();
    dueCleared("clear of a busy object", vm);
    Check.due("compile of the empty source", vm.compile(), OK);
    Check.due("lines of the empty source", vm.lineCount(), 0);
    Check.due("run is allowed again", vm.run(1), TinyBasicVm.ST_HALTED);
    dueCleared("clear again", vm);
    Check.due("256 characters have room", Check.load(vm, "2END\n".repeat(51) + "\n"), true);
    Check.due("and no more", vm.put(10, 0, 0, 0), false);
    Check.due("compile", vm.compile(), DUP);
    Check.due("error line", vm.getCompileErrorLine(), 2);
    dueCleared("clear after an error", vm);
    Check.compiled(vm, "6PRINT 6");
    Check.due("only the new lines", vm.lineCount(), 1);
    vm.run(9);
    Check.due("output of the new program", Check.outputOf(vm), "6");
  }

  private static void clearKeepsTheCapacities() {
    Check.sentence("The clamped gosubDepth, forDepth and outCap do not change.");
    TinyBasicVm vm = new TinyBasicVm(2, 3, 5);
    vm.clear();
    dueCapacities("after clear", vm, 2, 3, 5);
    vm = new TinyBasicVm(0, 9, 99);
    vm.clear();
    dueCapacities("after clear", vm, 1, 8, 32);
  }

  // ---- promise 4 ----

  private static void compileResetsTheRunState() {
    Check.sentence("Promise 4: `compile()` compiles the whole current source and always resets the run state, whatever it answers.");
    TinyBasicVm vm = busy();
    Check.due("compile", vm.compile(), OK);
    Check.dueReset("after C_OK", vm);
    Check.due("cont after compile", vm.cont(5), TinyBasicVm.REFUSED);
    Check.due("run after compile", vm.run(5), FUEL);
    String[] more = {"\n5OOPS", "\n1END", "\n" + Check.spaces(41), "\n" + ends(30).substring(ends(4).length())};
    int[] answers = {SYNTAX, DUP, LONG, MANY};
    for (int i = 0; i < more.length; i++) {
      vm = busy();
      Check.load(vm, more[i]);
      Check.due("compile with " + Check.quote(more[i]), vm.compile(), answers[i]);
      Check.dueReset("after " + answers[i], vm);
      Check.due("compile again", vm.compile(), answers[i]);
      Check.dueReset("after " + answers[i] + " again", vm);
    }
  }

  private static void compileKeepsTheSource() {
    Check.sentence("The source itself does not change.");
    for (String text : new String[] {"1PRINT 4", "1OOPS", "1END\n1END", Check.spaces(41), ends(17)}) {
      TinyBasicVm vm = Check.loaded(text);
      int answer = vm.compile();
      Check.due("the room that is left", Check.load(vm, "\n".repeat(256 - text.length())), true);
      Check.due("and no more", vm.put(10, 0, 0, 0), false);
      Check.due("compile again", vm.compile(), answer);
    }
    TinyBasicVm vm = Check.loaded("1PRINT");
    Check.due("compile of a half line", vm.compile(), SYNTAX);
    Check.load(vm, " 7");
    Check.due("compile of the whole line", vm.compile(), OK);
    vm.run(9);
    Check.due("its output", Check.outputOf(vm), "7");
  }

  private static void firstErrorEndsTheCompile() {
    Check.sentence("Physical lines are examined in text order, and the first error found ends the compile.");
    String tooLong = Check.spaces(41);
    Check.dueCompile("1END\nX\n" + tooLong + "\n1END", SYNTAX, 2);
    Check.dueCompile("1END\n1END\n" + tooLong + "\nX", DUP, 2);
    Check.dueCompile("1END\n" + tooLong + "\nX\n1END", LONG, 2);
    Check.dueCompile(ends(17) + tooLong + "\nX", MANY, 17);
    Check.dueCompile("9X\n1END\n1END", SYNTAX, 1);
    Check.dueCompile("9END\n1END\n9END\n1END", DUP, 3);
  }

  private static void lineTooLong() {
    Check.sentence("1. longer than 40 characters (even if blank): C_LINE_TOO_LONG");
    for (int length = 38; length <= 44; length++) {
      int answer = length > 40 ? LONG : OK;
      int line = length > 40 ? 1 : 0;
      Check.dueCompile(Check.spaces(length), answer, line);
      Check.dueCompile("1END" + Check.spaces(length - 4), answer, line);
      Check.dueCompile(Check.spaces(length - 4) + "1END", answer, line);
      Check.dueCompile("1PRINT" + "(-".repeat((length - 7) / 3) + "1" + ")".repeat((length - 7) / 3)
          + Check.spaces(length - 7 - (length - 7) / 3 * 3), answer, line);
      Check.dueCompile("0".repeat(length - 4) + "1END", answer, line);
      Check.dueCompile("1END\n" + Check.spaces(length) + "\n2END", answer, line * 2);
    }
    Check.dueCompile("X".repeat(41), LONG, 1);
    Check.dueCompile("X".repeat(40), SYNTAX, 1);
    Check.dueCompile("X".repeat(256), LONG, 1);
    Check.dueCompile(Check.spaces(256), LONG, 1);
  }

  private static void blankLineIsSkipped() {
    Check.sentence("2. blank: skip the line");
    Check.dueGood("", " ", Check.spaces(40), "\n", "\n\n\n", " \n  \n   ", ends(16) + Check.spaces(40), ends(16) + "\n\n\n ");
    Check.dueCompile("\n \n" + Check.spaces(40) + "\nX", SYNTAX, 4);
  }

  private static void tooManyLines() {
    Check.sentence("3. 16 program lines already accepted: C_TOO_MANY_LINES");
    for (int count = 14; count <= 20; count++) {
      Check.dueCompile(ends(count), count > 16 ? MANY : OK, count > 16 ? 17 : 0);
      Check.dueCompile("\n \n" + ends(count), count > 16 ? MANY : OK, count > 16 ? 19 : 0);
    }
    Check.due("lines of 16", Check.compiled(ends(16)).lineCount(), 16);
    Check.dueCompile(ends(16) + "\n\n\n99END", MANY, 20);
    TinyBasicVm vm = Check.loaded(ends(17));
    Check.due("17 lines", vm.compile(), MANY);
    vm.clear();
    Check.compiled(vm, ends(16));
    Check.due("16 lines after 17", vm.lineCount(), 16);
  }

  private static void syntaxErrors() {
    Check.sentence("4. the line does not match the grammar (.. a bad character, a number above 32767, an unknown word, or line number 0)");
    String[] wrong = {"1PRINT #", "1PRINT a", "1PRINT 32768", "32768END", "1REM", "1PRINT AB", "0END", "000END", "1", "END", "1PRINT 1 1"};
    for (String line : wrong) {
      Check.dueCompile(line, SYNTAX, 1);
      Check.dueCompile("9END\n\n" + line + "\n8END", SYNTAX, 3);
    }
  }

  private static void duplicateLines() {
    Check.sentence("5. its line number equals that of an earlier program line: C_DUP_LINE");
    Check.dueCompile("1END\n1END", DUP, 2);
    Check.dueCompile("1END\n01PRINT 1", DUP, 2);
    Check.dueCompile("32767END\n\n32767END", DUP, 3);
    Check.dueGood("1END\n10END\n100END\n11END", "32767END\n1END\n32766END");
    for (int same = 1; same <= 15; same++) {
      Check.dueCompile(ends(15) + same + "END", DUP, 16);
    }
    // A line of an earlier compile is no earlier line.
    TinyBasicVm vm = Check.loaded("1END\n2END");
    Check.due("compile", vm.compile(), OK);
    Check.due("compile again", vm.compile(), OK);
    vm.clear();
    Check.compiled(vm, "2END\n1END");
  }

  private static void orderOfTheChecks() {
    Check.sentence("For each physical line, the checks are made in this order");
    String longBlank = Check.spaces(41);
    Check.dueCompile(longBlank, LONG, 1);
    Check.dueCompile(ends(16) + longBlank, LONG, 17);
    Check.dueCompile(ends(16) + "X" + Check.spaces(40), LONG, 17);
    Check.dueCompile(ends(16) + "1END" + Check.spaces(37), LONG, 17);
    Check.dueCompile("1END\n1END" + Check.spaces(37), LONG, 2);
    Check.dueCompile("X".repeat(41), LONG, 1);
    Check.dueGood(ends(16) + Check.spaces(40));
    Check.dueCompile(ends(16) + "X", MANY, 17);
    Check.dueCompile(ends(16) + "0END", MANY, 17);
    Check.dueCompile(ends(16) + "1END", MANY, 17);
    Check.dueCompile(ends(15) + "1END\n17END", DUP, 16);
    Check.dueCompile("1END\n1EN", SYNTAX, 2);
    Check.dueCompile("1END\n1PRINT 32768", SYNTAX, 2);
    Check.dueCompile("1END\n1END 1", SYNTAX, 2);
  }

  private static void errorDiscardsTheProgram() {
    Check.sentence("On an error, it answers the code, sets the compile error line .., and discards the program");
    TinyBasicVm vm = busy();
    vm.put(10, 'X', 0, 0);
    Check.due("compile", vm.compile(), SYNTAX);
    Check.due("error line", vm.getCompileErrorLine(), 5);
    Check.dueNoProgram("after an error", vm);
    Check.dueReset("after an error", vm);
    for (int k = -1; k <= 17; k++) {
      Check.due("lineNumberAt(" + k + ")", vm.lineNumberAt(k), -1);
    }
  }

  private static void emptyProgram() {
    Check.sentence("An empty program (including an empty source) is fine and answers C_OK with lineCount() 0.");
    for (String text : new String[] {"", " ", "\n", "\n\n", " \n ", Check.spaces(40), "\n".repeat(256)}) {
      TinyBasicVm vm = Check.compiled(text);
      Check.due("lineCount()", vm.lineCount(), 0);
      Check.due("lineNumberAt(0)", vm.lineNumberAt(0), -1);
      Check.due("error line", vm.getCompileErrorLine(), 0);
      Check.due("run is allowed", vm.run(1), TinyBasicVm.ST_HALTED);
    }
    TinyBasicVm vm = busy();
    vm.clear();
    Check.due("compile after clear", vm.compile(), OK);
    Check.due("lineCount() after clear", vm.lineCount(), 0);
  }

  private static void sameSourceAgain() {
    Check.sentence("Compiling the same source again gives the same answer.");
    for (String text : new String[] {"", BUSY, "1OOPS", "1END\n1END", ends(17), Check.spaces(41), ends(16)}) {
      TinyBasicVm vm = Check.loaded(text);
      int answer = vm.compile();
      String state = Check.wholeState(vm);
      for (int round = 0; round < 80; round++) {
        vm.run(20);
        Check.due("compile again", vm.compile(), answer);
        Check.due("state again", Check.wholeState(vm), state);
      }
      TinyBasicVm once = Check.loaded(text);
      once.compile();
      Check.due("run", vm.run(20), once.run(20));
      Check.due("state after run", Check.wholeState(vm), Check.wholeState(once));
    }
    // What was compiled before, well or not, has no part in it.
    TinyBasicVm used = new TinyBasicVm(8, 8, 32);
    for (String earlier : new String[] {"1PRINT (1", "1PRINT ((-", "1PRINT 1)", "1PRINT -1", "1LET A=-(-2)\n2OOPS", ends(17)}) {
      Check.load(used, earlier);
      used.compile();
      used.clear();
      Check.compiled(used, "1PRINT 4+5");
      used.run(9);
      Check.due("output after " + Check.quote(earlier), Check.outputOf(used), "9");
      used.clear();
    }
  }

  // ---- promises 5 and 6 ----

  private static void errorLine() {
    Check.sentence("Promise 5: answers the physical line number of the error of the last compile");
    TinyBasicVm vm = new TinyBasicVm(1, 1, 1);
    for (int line = 1; line <= 256; line++) {
      vm.clear();
      Check.load(vm, "\n".repeat(line - 1) + "X");
      vm.compile();
      Check.due("error line", vm.getCompileErrorLine(), line);
      vm.run(1);
      vm.cont(1);
      vm.put(0, 0, 0, 0);
      Check.due("error line after refused calls", vm.getCompileErrorLine(), line);
      vm.compile();
      Check.due("error line after the same compile", vm.getCompileErrorLine(), line);
    }
    Check.due("error line before the errors are mended", vm.getCompileErrorLine(), 256);
  }

  private static void errorLineIsZero() {
    Check.sentence("It is 0 if there was no compile, if the last compile succeeded, or if put or clear has succeeded since.");
    TinyBasicVm vm = new TinyBasicVm(1, 1, 1);
    Check.due("no compile", vm.getCompileErrorLine(), 0);
    Check.load(vm, "\n1");
    Check.due("no compile, with a source", vm.getCompileErrorLine(), 0);
    vm.compile();
    Check.due("after an error", vm.getCompileErrorLine(), 2);
    vm.put('E', 'N', 'D', 0);
    Check.due("after put", vm.getCompileErrorLine(), 0);
    vm.compile();
    Check.due("after success", vm.getCompileErrorLine(), 0);
    vm.run(5);
    Check.due("after run", vm.getCompileErrorLine(), 0);
    vm.put('X', 0, 0, 0);
    vm.compile();
    Check.due("after an error again", vm.getCompileErrorLine(), 2);
    vm.clear();
    Check.due("after clear", vm.getCompileErrorLine(), 0);
    vm.compile();
    Check.due("after an empty compile", vm.getCompileErrorLine(), 0);
  }

  private static void lineCount() {
    Check.sentence("Promise 6: `lineCount()` answers the number of program lines of the current successful compile, else 0; it is at most 16.");
    for (int count = 0; count <= 16; count++) {
      TinyBasicVm vm = Check.loaded(ends(count));
      Check.due("before compile", vm.lineCount(), 0);
      vm.compile();
      Check.due("after compile", vm.lineCount(), count);
      vm.run(5);
      Check.due("after run", vm.lineCount(), count);
      vm.put(32, 0, 0, 0);
      Check.due("after put", vm.lineCount(), 0);
      vm.compile();
      Check.due("after compile again", vm.lineCount(), count);
      vm.clear();
      Check.due("after clear", vm.lineCount(), 0);
    }
    TinyBasicVm vm = Check.loaded(ends(17));
    vm.compile();
    Check.due("after 17 lines", vm.lineCount(), 0);
  }

  private static void lineNumberAt() {
    Check.sentence("the answers for k = 0 .. lineCount()-1 strictly ascend and lie in 1..32767");
    TinyBasicVm vm = Check.compiled("32767END\n1END\n32766END\n2END\n100END");
    int[] numbers = {1, 2, 100, 32766, 32767};
    for (int k = 0; k < numbers.length; k++) {
      Check.due("lineNumberAt(" + k + ")", vm.lineNumberAt(k), numbers[k]);
    }
    for (int stride = 1; stride < 16; stride += 2) {
      StringBuilder text = new StringBuilder();
      for (int i = 0; i < 16; i++) {
        text.append(i * stride % 16 * 2000 + 1).append("END\n");
      }
      vm = Check.compiled(text.toString());
      for (int k = 0; k < 16; k++) {
        Check.due("lineNumberAt(" + k + ") of 16", vm.lineNumberAt(k), k * 2000 + 1);
      }
    }
  }

  private static void lineNumberOutside() {
    Check.sentence("It answers -1 if k < 0 or k >= lineCount().");
    for (int count = 0; count <= 16; count++) {
      TinyBasicVm vm = Check.loaded(ends(count));
      Check.due("lineNumberAt(0) before compile", vm.lineNumberAt(0), -1);
      vm.compile();
      for (int k = -3; k <= 20; k++) {
        Check.due("lineNumberAt(" + k + ") of " + count, vm.lineNumberAt(k), k >= 0 && k < count ? k + 1 : -1);
      }
      for (int k : new int[] {Integer.MIN_VALUE, -65536, -256, 32, 255, 256, 65536, Integer.MAX_VALUE}) {
        Check.due("lineNumberAt(" + k + ") of " + count, vm.lineNumberAt(k), -1);
      }
      vm.put(32, 0, 0, 0);
      Check.due("lineNumberAt(0) after put", vm.lineNumberAt(0), -1);
    }
  }

  private static void errorLineChangesNothing() {
    Check.sentence("Promise 5: It changes nothing.");
    TinyBasicVm vm = busy();
    TinyBasicVm other = busy();
    for (int i = 0; i < 20; i++) {
      vm.getCompileErrorLine();
    }
    dueAlike(vm, other);
    vm = Check.loaded("\n1OOPS");
    vm.compile();
    for (int i = 0; i < 20; i++) {
      Check.due("error line asked again", vm.getCompileErrorLine(), 2);
    }
  }

  private static void listingChangesNothing() {
    Check.sentence("Promise 6: Neither call changes anything.");
    TinyBasicVm vm = busy();
    TinyBasicVm other = busy();
    for (int k : ANY_INTS) {
      vm.lineNumberAt(k);
      vm.lineCount();
    }
    dueAlike(vm, other);
  }

  private static void dueAlike(TinyBasicVm vm, TinyBasicVm other) {
    Check.due("state", Check.wholeState(vm), Check.wholeState(other));
    Check.due("cont", vm.cont(5), other.cont(5));
    Check.due("state after cont", Check.wholeState(vm), Check.wholeState(other));
  }
}
