/** Promise 4: tokens, grammar, and the checks of a line in their order. */
public final class CompileTest {
  private static final int OK = TinyBasicVm.C_OK;
  private static final int SYNTAX = TinyBasicVm.C_SYNTAX;
  private static final int DUP = TinyBasicVm.C_DUP_LINE;
  private static final int MANY = TinyBasicVm.C_TOO_MANY_LINES;
  private static final int LONG = TinyBasicVm.C_LINE_TOO_LONG;

  public static void main(String[] args) {
    blankSources();
    numbers();
    words();
    symbols();
    characters();
    statements();
    expressions();
    lineLength();
    lineNumbers();
    lineLimit();
    orderOfChecks();
    resetsTheRunState();
    failureDiscards();
    sameAnswerAgain();
    usedObject();
    fullSource();
    Check.finish();
  }

  private static void due(String text, int answer, int errorLine) {
    Check.dueCompile(text, answer, errorLine);
  }

  private static void good(String... texts) {
    Check.dueGood(texts);
  }

  private static void bad(String... texts) {
    Check.dueBad(texts);
  }

  private static void blankSources() {
    good("", "\n", " ", "  \n   \n", "\n\n\n1 END\n\n", "   1 END   ", Check.spaces(40), Check.spaces(40) + "\n1 END");
    Check.due("lines of a blank source", Check.compiled(" \n \n").lineCount(), 0);
    Check.due("run of a blank source", Check.compiled(" \n \n").run(5), TinyBasicVm.ST_HALTED);
    Check.due("lines between blank lines", Check.compiled("\n 1END\n\n2END\n").lineCount(), 2);
  }

  private static void numbers() {
    good("1 PRINT 32767", "1 PRINT 0", "1 PRINT 00032767", "1 PRINT 000000000000000000000000000007", "32767 END");
    bad("1 PRINT 32768", "1 PRINT 99999", "1 PRINT 65537", "1 PRINT 4294967297", "1 PRINT 2147483648");
    bad("1 PRINT 99999999999999999999999999999999", "1 PRINT 1 2", "1 PRINT 18446744073709551617", "1 PRINT 100000");
    bad("1 PRINT 1.5", "1 PRINT 5A", "1 PRINT A5", "1 PRINT A 5", "1 PRINT -32768");
    due("1 PRINT -32767-1", OK, 0);
    TinyBasicVm vm = Check.compiled("1 PRINT 00032767\n0002PRINT 0010");
    vm.run(9);
    Check.due("leading zeros", Check.outputOf(vm), "32767 10");
  }

  private static void words() {
    good("1LET A=1", "1PRINT 1", "1IF 1=1THEN 1", "1GOTO 1", "1GOSUB 1", "1RETURN", "1FOR A=1TO 2", "1NEXT A", "1END");
    bad("1LETA=1", "1PRINTA", "1IFA=1THEN 1", "1IF 1=1THENA", "1GOTOA", "1NEXTA", "1FORA=1TO 2", "1FOR A=1TOB");
    bad("1 REM", "1 LE A=1", "1 LETT A=1", "1 L ET A=1", "1 GO TO 1", "1 GO SUB 1", "1 ENDD", "1 EN D", "1 AA", "1 AB");
    bad("1 RETURNS", "1 RETUR", "1 XRETURN", "1 ARETURN", "1 PRINTX 1", "1 STOP", "1 INPUT A", "1 OR", "1 NET A");
    bad("1 LET AB=1", "1 PRINT AB", "1 NEXT AB", "1 PRINT LET", "1 PRINT TO", "1 LET END=1", "1 THEN", "1 TO 1");
    bad("1 AAAAAAAAAAAAAAAAAAAAAAAAAAAAAAAAAAAAAA", "1 @ET A=1", "1 PRINT THEN", "1 A", "1 A=1");
    for (char v = 'A'; v <= 'Z'; v++) {
      TinyBasicVm vm = Check.compiled("1LET " + v + "=7\n2PRINT " + v + "+1");
      vm.run(9);
      Check.due("variable " + v, vm.getVar(v - 'A'), 7);
      Check.due("value of " + v, vm.getOutput(0), 8);
    }
  }

  private static void symbols() {
    for (String relation : new String[] {"=", "<>", "<", ">", "<=", ">="}) {
      good("1IF A" + relation + "B THEN 1", "1 IF A " + relation + " B THEN 1", "1IF 1" + relation + "-1THEN 1");
    }
    for (String wrong : new String[] {"< =", "> =", "< >", "=<", "=>", "><", "==", "<<", ">>", "<>=", "<=>", "!=", "#"}) {
      bad("1 IF A" + wrong + "B THEN 1");
    }
    bad("1 IF A B THEN 1", "1 LET A<=1", "1 LET A<1", "1 LET A==1", "1 FOR A<1 TO 2", "1 PRINT 1=1", "1 PRINT 1<2");
    bad("1 IF A=B=C THEN 1", "1 IF A+B THEN 1", "1 IF A(B THEN 1", "1 IF A)B THEN 1", "1 IF (A=B) THEN 1");
  }

  private static void characters() {
    for (int c = 33; c <= 126; c++) {
      boolean plain = "0123456789ABCDEFGHIJKLMNOPQRSTUVWXYZ+-*/()=<>".indexOf(c) >= 0;
      if (!plain) {
        bad("1 PRINT " + (char) c, "1 PRINT 1" + (char) c, "" + (char) c, (char) c + "1 END", "1 END" + (char) c);
      }
    }
    bad("1 print 1", "1 PRINT a", "1 end", "1 PRINT ~", "1 PRINT 1:END", "1 END;", "1 PRINT A,B", "1 PRINT \"A\"");
  }

  private static void statements() {
    bad("1", "END", "PRINT 1", "A 1 END", "1 1 END", "-1 END", "(1) END", "1+1 END", "1 =", "1 +", "1 ()");
    bad("1 LET", "1 LET A", "1 LET A=", "1 LET =1", "1 LET 1=1", "1 LET A 1", "1 LET A=1 2", "1 LET A=1 END", "1 LET (A)=1");
    bad("1 PRINT", "1 PRINT 1 1", "1 PRINT A B", "1 PRINT PRINT 1", "1 PRINT 1 END");
    bad("1 IF", "1 IF 1", "1 IF 1=", "1 IF 1=1", "1 IF 1=1 THEN", "1 IF =1 THEN 1", "1 IF 1= THEN 1", "1 IF THEN 1");
    bad("1 IF 1=1 2", "1 IF 1=1 GOTO 1", "1 IF 1=1 THEN GOTO 1", "1 IF 1=1 THEN 1 1", "1 IF 1=1 THEN 1=1", "1 IF 1=1 TO 1");
    bad("1 GOTO", "1 GOTO 1 2", "1 GOTO END", "1 GOSUB", "1 GOSUB 1 2", "1 GOSUB =1");
    bad("1 RETURN 1", "1 RETURN A", "1 RETURN END", "1 END 1", "1 END END", "1 END +");
    bad("1 FOR", "1 FOR A", "1 FOR A=", "1 FOR A=1", "1 FOR A=1 TO", "1 FOR 1=1 TO 2", "1 FOR A 1 TO 2", "1 FOR A=TO 2");
    bad("1 FOR A=1 2", "1 FOR A=1 THEN 2", "1 FOR A=1 TO 2 3", "1 FOR A=1 TO 2 TO 3", "1 FOR A=1 TO 2 END", "1 FOR AA=1 TO 2");
    bad("1 NEXT", "1 NEXT 1", "1 NEXT A B", "1 NEXT A+1", "1 NEXT (A)", "1 NEXT A,B", "1 NEXT END");
    bad("1 FOR A=1 NEXT 2", "1 FOR A=1 FOR 2", "1 TO A=1 TO 2", "1 IF 1=1 IF 1", "1 THEN 1=1 THEN 1", "1 NEXT A=1 TO 2");
    good("1 LET A=A", "1 GOTO A*2+1", "1 GOSUB (A)", "1 FOR A=A TO A", "1 IF A<A THEN A", "1 IF -A>-(A)THEN -A");
    good("1LET A=1", "  1   LET   A   =   1  ", "1PRINT(1)", "1PRINT-1", "1GOTO(1)", "1FOR A=(1)TO(2)", "1IF(1)=(1)THEN(1)");
  }

  private static void expressions() {
    good("1PRINT((((((((((((((((1))))))))))))))))", "1PRINT" + "-".repeat(33) + "1", "1PRINT -(-(-(1)))");
    good("1PRINT 1--1", "1PRINT 1---1", "1PRINT 1*-1", "1PRINT 1/-1", "1PRINT -A*-B", "1PRINT(1)*(2)", "1PRINT 1/0");
    good("1PRINT 1+2-3*4/5", "1PRINT(A)", "1PRINT -(A)", "1PRINT A-(-(B))", "1PRINT 1+1+1+1+1+1+1+1+1+1+1+1+1+1+1+1");
    bad("1PRINT+1", "1PRINT 1+", "1PRINT 1-", "1PRINT 1*", "1PRINT 1/", "1PRINT *1", "1PRINT /1", "1PRINT 1++1", "1PRINT 1-+1");
    bad("1PRINT 1**1", "1PRINT 1*/1", "1PRINT -", "1PRINT --", "1PRINT ()", "1PRINT (", "1PRINT )", "1PRINT (1", "1PRINT 1)");
    bad("1PRINT (1))", "1PRINT ((1)", "1PRINT )1(", "1PRINT (1)(2)", "1PRINT 1(2)", "1PRINT (1)2", "1PRINT (1)A", "1PRINT A(1)");
    bad("1PRINT (+1)", "1PRINT (1+)", "1PRINT (-)", "1PRINT (*1)", "1PRINT 1+(", "1PRINT (1+2", "1PRINT -(1", "1PRINT (1*(2)");
    bad("1PRINT *1)", "1PRINT +1)", "1PRINT =1)", "1PRINT THEN 1)", "1PRINT 1()", "1PRINT A()", "1PRINT 1(", "1PRINT (1)()");
    bad("1LET A=(1", "1LET A=1)", "1IF (1=1 THEN 1", "1IF 1=1) THEN 1", "1IF (1=1) THEN 1", "1FOR A=(1 TO 2)", "1GOTO (1");
    bad("1PRINT((((((((((((((((((((((((((((((((", "1PRINT))))))))))))))))))))))))))))))))))", "1PRINT ---------------------------------");
  }

  private static void lineLength() {
    due("1 END" + Check.spaces(35), OK, 0);
    due("1 END" + Check.spaces(36), LONG, 1);
    due(Check.spaces(35) + "1 END", OK, 0);
    due(Check.spaces(36) + "1 END", LONG, 1);
    due(Check.spaces(41), LONG, 1);
    due(Check.spaces(40) + "\n" + Check.spaces(41), LONG, 2);
    due("1PRINT " + "1+".repeat(16) + "1", OK, 0);
    due("1PRINT " + "1+".repeat(16) + "1 ", LONG, 1);
    due("1END\n2END\n" + "x".repeat(41) + "\n4END", LONG, 3);
    due("1END\n" + Check.spaces(41) + "\n1END", LONG, 2);
    due("x".repeat(256), LONG, 1);
    due(Check.spaces(216) + "\n" + Check.spaces(39), LONG, 1);
    due(("9".repeat(3) + "END" + Check.spaces(34)) + "\n1END", OK, 0);
  }

  private static void lineNumbers() {
    bad("0 END", "00000 END", "32768 END", "99999 END", "4294967297 END");
    good("1 END", "32767 END", "00001 END");
    due("1 END\n1 END", DUP, 2);
    due("1 END\n2 END\n\n 001 PRINT 3", DUP, 4);
    due("5 END\n4 END\n3 END\n5 END\n4 END", DUP, 4);
    due("1 END\n2 END\n1 END\n0 END", DUP, 3);
    due("1 END\n1 EN", SYNTAX, 2);
    due("1 END\n12 END\n21 END", OK, 0);
  }

  private static String ends(int count) {
    StringBuilder text = new StringBuilder();
    for (int i = 1; i <= count; i++) {
      text.append(i).append("END\n");
    }
    return text.toString();
  }

  private static void lineLimit() {
    due(ends(15), OK, 0);
    due(ends(16), OK, 0);
    due(ends(17), MANY, 17);
    due(ends(16) + "\n  \n\n20 END", MANY, 20);
    due("\n\n" + ends(17), MANY, 19);
    Check.due("lines of 16", Check.compiled(ends(16)).lineCount(), 16);
    Check.due("lines of 16 and blanks", Check.compiled("\n" + ends(16) + "\n \n").lineCount(), 16);
  }

  private static void orderOfChecks() {
    due(ends(16) + Check.spaces(41), LONG, 17);
    due(ends(16) + "1END" + Check.spaces(37), LONG, 17);
    due(ends(16) + Check.spaces(40), OK, 0);
    due(ends(16) + "oops", MANY, 17);
    due(ends(16) + "0END", MANY, 17);
    due(ends(16) + "1END", MANY, 17);
    due("1 END\n1 END 1", SYNTAX, 2);
    due("1 END\n1 PRINT $", SYNTAX, 2);
    due("1 END\nx\n1 END\n" + Check.spaces(41), SYNTAX, 2);
    due("1 END\n1 END\nx\n" + Check.spaces(41), DUP, 2);
    due(Check.spaces(41) + "\nx\n1 END\n1 END", LONG, 1);
  }

  private static void resetsTheRunState() {
    TinyBasicVm vm = Check.compiled("1 FOR I=1TO 9\n2 PRINT I\n3 GOSUB 2");
    vm.run(7);
    Check.due("compile again", vm.compile(), OK);
    Check.dueReset("after compile", vm);
    Check.due("cont after compile", vm.cont(5), TinyBasicVm.REFUSED);
    Check.due("run after compile", vm.run(5), TinyBasicVm.ST_OUT_OF_FUEL);
    vm = Check.loaded("1 OOPS");
    vm.compile();
    Check.dueReset("after a failed compile", vm);
  }

  private static void failureDiscards() {
    TinyBasicVm vm = Check.compiled("1 END\n2 END");
    vm.put(10, 49, 0, 0);
    Check.due("compile of a broken third line", vm.compile(), SYNTAX);
    Check.due("its line", vm.getCompileErrorLine(), 3);
    Check.dueNoProgram("after a failed compile", vm);
    vm.put(51, 69, 78, 68);
    Check.due("compile of the mended line", vm.compile(), OK);
    Check.due("error line of the mended program", vm.getCompileErrorLine(), 0);
    Check.due("number of the mended line", vm.lineNumberAt(2), 13);
    Check.due("run of the mended program", vm.run(1), TinyBasicVm.ST_HALTED);
  }

  private static void sameAnswerAgain() {
    String[] texts = {"", "1 END", "1 OOPS", "1 END\n1 END", ends(17), Check.spaces(41), "9 GOTO 3\n3 PRINT 4*(5-6)\n5 END"};
    for (String text : texts) {
      TinyBasicVm vm = Check.loaded(text);
      int answer = vm.compile();
      String state = Check.wholeState(vm);
      for (int round = 0; round < 300; round++) {
        Check.due("compile again of " + Check.quote(text), vm.compile(), answer);
      }
      Check.due("state after compiling again", Check.wholeState(vm), state);
      if (answer == OK) {
        TinyBasicVm once = Check.compiled(text);
        once.run(50);
        vm.run(50);
        Check.due("run after compiling again", Check.wholeState(vm), Check.wholeState(once));
      }
    }
  }

  /** What an earlier compile leaves inside, failed or not, has no part in the next one. */
  private static void usedObject() {
    String[] earlier = {
      "1PRINT (1", "1PRINT ((1+", "1PRINT 1)", "1PRINT -", "1PRINT -1", "1LET A=-(-(-2))\n2PRINT 1*2+3", "1IF 1<",
      "1END\n2END\n3END\n3END", "9PRINT 1\n8PRINT 2\n7PRINT 3\n6OOPS", "1FOR A=9TO 1", ends(17), Check.spaces(41)
    };
    String[] later = {"1PRINT 1", "1PRINT (2)", "2LET B=3\n1PRINT 4\n3PRINT B", "1IF 1=1THEN 2\n2PRINT 5", ""};
    TinyBasicVm used = new TinyBasicVm(8, 8, 32);
    for (String before : earlier) {
      for (String text : later) {
        used.clear();
        Check.load(used, before);
        used.compile();
        used.run(20);
        used.clear();
        Check.load(used, text);
        String what = Check.quote(text) + " behind " + Check.quote(before);
        Check.due("compile of " + what, used.compile(), OK);
        used.run(20);
        TinyBasicVm fresh = Check.compiled(text);
        fresh.run(20);
        Check.due("state of " + what, Check.wholeState(used), Check.wholeState(fresh));
      }
    }
  }

  /** The last line of a source of 256 characters ends where the room for the source ends. */
  private static void fullSource() {
    for (String last : new String[] {"1PRINT 12", "1PRINT A", "1RETURN"}) {
      due("\n".repeat(256 - last.length()) + last, OK, 0);
    }
    for (String last : new String[] {"1IF A<", "1IF A>", "1PRINT (", "1OOPS", "1"}) {
      due("\n".repeat(256 - last.length()) + last, SYNTAX, 257 - last.length());
    }
    String line = "PRINT 1+2*(3-4)/-5+6*7-8+9+A+B\n";
    StringBuilder text = new StringBuilder();
    for (int i = 1; i <= 7; i++) {
      text.append(i).append(line);
    }
    text.append("8PRINT ").append("-".repeat(24)).append("1");
    Check.due("length of the full source", text.length(), 256);
    TinyBasicVm vm = Check.compiled(text.toString());
    vm.run(20);
    Check.due("output of the full source", Check.outputOf(vm), "44 44 44 44 44 44 44 1");
  }
}
