/** Counts the answers that are not as due, and helps the tests to load programs and to look at a whole object. */
final class Check {
  private static int calls = 0;
  private static int wrong = 0;
  private static String sentence = "";
  private static int callsOfSentence = 0;

  private Check() {}

  /** Begins the test of one sentence of the document, which is printed with every answer that breaks it. */
  static void sentence(String words) {
    endSentence();
    sentence = words;
    callsOfSentence = 0;
  }

  private static void endSentence() {
    if (!sentence.isEmpty() && callsOfSentence == 0) {
      wrong++;
      System.out.println("no answer was looked at for: " + sentence);
    }
  }

  static void due(String what, long got, long want) {
    due(what, Long.toString(got), Long.toString(want));
  }

  static void due(String what, boolean got, boolean want) {
    due(what, got ? 1L : 0L, want ? 1L : 0L);
  }

  static void due(String what, String got, String want) {
    calls++;
    callsOfSentence++;
    if (!got.equals(want)) {
      wrong++;
      System.out.println((sentence.isEmpty() ? "" : "[" + sentence + "] ") + what + " answered " + got + ", due is " + want);
    }
  }

  static void finish() {
    endSentence();
    System.out.println(calls + " answers, " + wrong + " not as due");
    if (wrong != 0 || calls == 0) {
      System.exit(1);
    }
  }

  /** Puts the text in groups of four; answers whether every put was taken. */
  static boolean load(TinyBasicVm vm, String text) {
    boolean taken = true;
    for (int i = 0; i < text.length(); i += 4) {
      taken &= vm.put(charAt(text, i), charAt(text, i + 1), charAt(text, i + 2), charAt(text, i + 3));
    }
    return taken;
  }

  private static int charAt(String text, int i) {
    return i < text.length() ? text.charAt(i) : 0;
  }

  static TinyBasicVm loaded(String text) {
    return loaded(new TinyBasicVm(8, 8, 32), text);
  }

  static TinyBasicVm loaded(TinyBasicVm vm, String text) {
    due("load of " + quote(text), load(vm, text), true);
    return vm;
  }

  static TinyBasicVm compiled(String text) {
    return compiled(new TinyBasicVm(8, 8, 32), text);
  }

  static TinyBasicVm compiled(TinyBasicVm vm, String text) {
    loaded(vm, text);
    due("compile of " + quote(text), vm.compile(), TinyBasicVm.C_OK);
    return vm;
  }

  /** Compiles the text on a new object: the answer and the line of the error are due, and no program after an error. */
  static void dueCompile(String text, int answer, int errorLine) {
    TinyBasicVm vm = loaded(text);
    due("compile of " + quote(text), vm.compile(), answer);
    due("error line of " + quote(text), vm.getCompileErrorLine(), errorLine);
    if (answer != TinyBasicVm.C_OK) {
      dueNoProgram(quote(text), vm);
    }
  }

  static void dueGood(String... texts) {
    for (String text : texts) {
      dueCompile(text, TinyBasicVm.C_OK, 0);
    }
  }

  static void dueBad(String... texts) {
    for (String text : texts) {
      dueCompile(text, TinyBasicVm.C_SYNTAX, 1);
    }
  }

  /** Compiles and runs the text with all fuel: status, stop line, steps and output are due. */
  static TinyBasicVm dueRun(String text, int status, int stopLine, int steps, String output) {
    return dueRun(new TinyBasicVm(8, 8, 32), text, status, stopLine, steps, output);
  }

  static TinyBasicVm dueRun(TinyBasicVm vm, String text, int status, int stopLine, int steps, String output) {
    compiled(vm, text);
    due("run of " + quote(text), vm.run(TinyBasicVm.MAX_FUEL), status);
    dueStop(quote(text), vm, status, stopLine, steps);
    due("output of " + quote(text), outputOf(vm), output);
    return vm;
  }

  static void dueStop(String when, TinyBasicVm vm, int status, int stopLine, int steps) {
    due(when + ": getStatus()", vm.getStatus(), status);
    due(when + ": getStopLine()", vm.getStopLine(), stopLine);
    due(when + ": getSteps()", vm.getSteps(), steps);
  }

  static void dueStacks(String when, TinyBasicVm vm, int gosubs, int frames) {
    due(when + ": GOSUB entries", vm.getStackDepth(TinyBasicVm.STACK_GOSUB), gosubs);
    due(when + ": FOR frames", vm.getStackDepth(TinyBasicVm.STACK_FOR), frames);
  }

  static String quote(String text) {
    return "\"" + text.replace("\n", "\\n") + "\"";
  }

  static String spaces(int count) {
    return " ".repeat(count);
  }

  static String outputOf(TinyBasicVm vm) {
    StringBuilder list = new StringBuilder();
    for (int i = 0; i < vm.getOutputCount(); i++) {
      list.append(i == 0 ? "" : " ").append(vm.getOutput(i));
    }
    return list.toString();
  }

  /** The run state as far as the getters tell it. */
  static String runState(TinyBasicVm vm) {
    StringBuilder state = new StringBuilder();
    state.append("status ").append(vm.getStatus()).append(" stop ").append(vm.getStopLine());
    state.append(" steps ").append(vm.getSteps()).append(" vars");
    for (int v = 0; v < 26; v++) {
      state.append(' ').append(vm.getVar(v));
    }
    state.append(" out ").append(vm.getOutputCount()).append(':');
    for (int i = 0; i < 33; i++) {
      state.append(' ').append(vm.getOutput(i));
    }
    state.append(" gosub ").append(vm.getStackDepth(TinyBasicVm.STACK_GOSUB));
    state.append(" for ").append(vm.getStackDepth(TinyBasicVm.STACK_FOR));
    return state.toString();
  }

  /** Everything that the getters tell. */
  static String wholeState(TinyBasicVm vm) {
    StringBuilder state = new StringBuilder();
    state.append("error ").append(vm.getCompileErrorLine()).append(" lines ").append(vm.lineCount()).append(':');
    for (int k = 0; k < 17; k++) {
      state.append(' ').append(vm.lineNumberAt(k));
    }
    return state.append(' ').append(runState(vm)).toString();
  }

  /** Checks everything that the document says of a reset run state. */
  static void dueReset(String when, TinyBasicVm vm) {
    due(when + ": getStatus()", vm.getStatus(), TinyBasicVm.ST_IDLE);
    due(when + ": getStopLine()", vm.getStopLine(), -1);
    due(when + ": getSteps()", vm.getSteps(), 0);
    for (int v = 0; v < 26; v++) {
      due(when + ": getVar(" + v + ")", vm.getVar(v), 0);
    }
    due(when + ": getOutputCount()", vm.getOutputCount(), 0);
    due(when + ": getOutput(0)", vm.getOutput(0), 0);
    due(when + ": getStackDepth(0)", vm.getStackDepth(0), 0);
    due(when + ": getStackDepth(1)", vm.getStackDepth(1), 0);
  }

  /** Checks that there is no program: nothing to list and nothing to run. */
  static void dueNoProgram(String when, TinyBasicVm vm) {
    due(when + ": lineCount()", vm.lineCount(), 0);
    due(when + ": lineNumberAt(0)", vm.lineNumberAt(0), -1);
    String before = wholeState(vm);
    due(when + ": run(1000)", vm.run(1000), TinyBasicVm.REFUSED);
    due(when + ": cont(1000)", vm.cont(1000), TinyBasicVm.REFUSED);
    due(when + ": state after refused calls", wholeState(vm), before);
  }
}
