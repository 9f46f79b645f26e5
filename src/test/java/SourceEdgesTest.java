/** The boundary sentences of "The language" about source, tokens and grammar, one method each. */
public final class SourceEdgesTest {
  private static final int OK = TinyBasicVm.C_OK;
  private static final int SYNTAX = TinyBasicVm.C_SYNTAX;
  private static final int LONG = TinyBasicVm.C_LINE_TOO_LONG;

  public static void main(String[] args) {
    atMost256Characters();
    oneLineMoreThanNewlines();
    newlineIsNoPartOfALine();
    blankLines();
    everyOtherLine();
    spacesOnlySeparate();
    maximalRunOfDigits();
    numberAtMost32767();
    oneLetterWord();
    longerWord();
    symbols();
    lessWithAnother();
    greaterWithAnother();
    anyOtherCharacter();
    wholeTokenSequence();
    lineNumberZero();
    leftAssociative();
    factors();
    anyOrderInTheText();
    afterTheLastLine();
    Check.finish();
  }

  private static void atMost256Characters() {
    Check.sentence("Source. At most 256 characters.");
    String last = "9PRINT 8";
    TinyBasicVm vm = Check.loaded("\n".repeat(256 - last.length()) + last);
    for (int c : new int[] {10, 32, 49, 126}) {
      Check.due("character 257 is " + c, vm.put(c, 0, 0, 0), false);
    }
    Check.due("compile of 256 characters", vm.compile(), OK);
    vm.run(9);
    Check.due("output of the last characters", Check.outputOf(vm), "8");
    // A token may end, or be cut off, where the room for the source ends.
    for (String cut : new String[] {"1IF A<", "1IF A>", "1IF A<=", "1IF A=", "1PRINT (", "1PRINT -", "1PRIN", "1LET A", "1"}) {
      Check.dueCompile("\n".repeat(256 - cut.length()) + cut, SYNTAX, 257 - cut.length());
    }
    Check.dueGood("\n".repeat(248) + "1NEXT A\n", "\n".repeat(249) + "1NEXT A", "\n".repeat(247) + "1GOTO 777", "\n".repeat(246) + "1PRINT (1)");
  }

  private static void oneLineMoreThanNewlines() {
    Check.sentence("A text with n characters 10 has n+1 physical lines, counted from 1.");
    for (int n = 0; n <= 255; n++) {
      Check.dueCompile("\n".repeat(n) + "X", SYNTAX, n + 1);
    }
    Check.dueCompile("X\n", SYNTAX, 1);
    Check.dueCompile("1END\n\n" + Check.spaces(41) + "\n", LONG, 3);
    Check.dueGood("\n".repeat(256));
  }

  private static void newlineIsNoPartOfALine() {
    Check.sentence("The newline is not part of a line.");
    String forty = "1END" + Check.spaces(36);
    Check.dueGood(forty + "\n", forty + "\n2END\n", "\n" + forty, Check.spaces(40) + "\n" + Check.spaces(40) + "\n");
    Check.dueCompile("1PRINT 1\n2", SYNTAX, 2);
    Check.dueCompile("1PRINT\n2", SYNTAX, 1);
    Check.dueCompile("1IF 1<\n=2THEN 1", SYNTAX, 1);
    Check.dueRun("1PRINT 1\n2PRINT 2", TinyBasicVm.ST_HALTED, -1, 2, "1 2");
  }

  private static void blankLines() {
    Check.sentence("A physical line that is empty or holds only spaces (32) is blank and ignored.");
    for (int count = 0; count <= 40; count++) {
      String blank = Check.spaces(count);
      Check.due("lines", Check.compiled(blank).lineCount(), 0);
      Check.due("lines", Check.compiled(blank + "\n7END\n" + blank + "\n8END\n" + blank).lineCount(), 2);
    }
    StringBuilder text = new StringBuilder();
    for (int i = 1; i <= 16; i++) {
      text.append(" \n\n").append(i).append("END\n");
    }
    Check.due("16 lines between blank ones", Check.compiled(text.append("\n ").toString()).lineCount(), 16);
  }

  private static void everyOtherLine() {
    Check.sentence("Every other physical line is a program line.");
    for (int c = 33; c <= 126; c++) {
      Check.dueBad("" + (char) c, Check.spaces(39) + (char) c, (char) c + Check.spaces(39));
    }
    Check.due("a line of few characters", Check.compiled(" 1END ").lineCount(), 1);
  }

  private static void spacesOnlySeparate() {
    Check.sentence("Spaces only separate tokens.");
    Check.dueGood("1END", " 1 END ", "1LET A=1", "1  LET  A  =  1", "1FOR A=1TO 2", "1IF A=1THEN 1", "1PRINT-1", "1PRINT( 1 )");
    Check.dueBad("1 PRINT 1 2", "1 PR INT 1", "1 PRINTA", "1 LETA=1", "1 FOR A=1TOB", "1 NEXTA", "1 IF A< =B THEN 1");
    Check.dueGood("10 PRINT 1");
    Check.dueBad("1 0 PRINT 1");
  }

  private static void maximalRunOfDigits() {
    Check.sentence("number: a maximal run of '0'..'9', decimal.");
    value("12345", 12345);
    value("6789", 6789);
    value("010", 10);
    value("0", 0);
    value("000000000000000000000000000032767", 32767);
    Check.due("a line number of five digits", Check.compiled("32101END").lineNumberAt(0), 32101);
    Check.due("a line number with zeros before it", Check.compiled("0000000000000000000000000000000000010END").lineNumberAt(0), 10);
  }

  private static void numberAtMost32767() {
    Check.sentence("Its value must be at most 32767.");
    String[] places = {
      "1LET A=%", "1PRINT %", "1IF %=1THEN 1", "1IF 1=%THEN 1", "1IF 1=1THEN %", "1GOTO %", "1GOSUB %", "1FOR A=%TO 1",
      "1FOR A=1TO %", "1PRINT(%)", "1PRINT-%", "1PRINT 1+%", "1PRINT %*1", "%END"
    };
    String[] tooLarge = {
      "32768", "32769", "32770", "33000", "40000", "65535", "65536", "65537", "99999", "100000", "327670", "2147483647",
      "2147483648", "4294967295", "4294967296", "4294967297", "9999999999", "18446744073709551617", "0032768"
    };
    for (String place : places) {
      Check.dueGood(place.replace("%", "32767"), place.replace("%", "32766"), place.replace("%", "0032767"));
      for (String number : tooLarge) {
        Check.dueBad(place.replace("%", number));
      }
    }
    Check.dueBad("9".repeat(37) + "END", "1PRINT " + "9".repeat(33), "1PRINT -32768");
  }

  private static void oneLetterWord() {
    Check.sentence("A one-letter word is a variable (A is variable 0 .. Z is variable 25).");
    for (int v = 0; v < 26; v++) {
      char name = (char) ('A' + v);
      TinyBasicVm vm = Check.compiled("1LET " + name + "=9\n2PRINT " + name + "\n3FOR " + name + "=4TO 3\n4NEXT " + name);
      vm.run(2);
      Check.due("output of " + name, Check.outputOf(vm), "9");
      for (int other = 0; other < 26; other++) {
        Check.due("variable " + other + " after LET " + name, vm.getVar(other), other == v ? 9 : 0);
      }
      vm.cont(9);
      Check.due(name + " after NEXT", vm.getVar(v), 5);
    }
  }

  private static void longerWord() {
    Check.sentence("A longer word must be one of LET PRINT IF THEN GOTO GOSUB RETURN FOR TO NEXT END.");
    String[] keywords = {"LET", "PRINT", "IF", "THEN", "GOTO", "GOSUB", "RETURN", "FOR", "TO", "NEXT", "END"};
    String[] lines = {
      "1LET A=1", "1PRINT 1", "1IF 1=1THEN 1", "1IF 1=1THEN 1", "1GOTO 1", "1GOSUB 1", "1RETURN", "1FOR A=1TO 1",
      "1FOR A=1TO 1", "1NEXT A", "1END"
    };
    for (int i = 0; i < keywords.length; i++) {
      String word = keywords[i];
      Check.dueGood(lines[i]);
      Check.dueBad(lines[i].replace(word, word + word), lines[i].replace(word, word + "AAAA"), lines[i].replace(word, "AAAA" + word));
      Check.dueBad(lines[i].replace(word, word.substring(1)), lines[i].replace(word, word.substring(0, word.length() - 1)));
      Check.dueBad(lines[i].replace(word, word.toLowerCase()), "1PRINT " + word, "1LET " + word + "=1");
      for (char more = 'A'; more <= 'Z'; more++) {
        Check.dueBad(lines[i].replace(word, more + word), lines[i].replace(word, word + more));
      }
      for (int letter = 0; letter < word.length(); letter++) {
        Check.dueBad(lines[i].replace(word, word.substring(0, letter) + "Q" + word.substring(letter + 1)));
      }
    }
    Check.dueBad("1AA", "1PRINT AA", "1PRINT AB", "1REM", "1STOP", "1" + "A".repeat(39), "1PRINT " + "Z".repeat(33));
  }

  private static void lessWithAnother() {
    Check.sentence("'<' directly followed by '=' or '>' forms one two-character symbol.");
    for (String wrong : new String[] {"< =", "< >", "<<", "<>=", "<=>", "<==", "<>>", "<= ="}) {
      Check.dueBad("1IF A" + wrong + "B THEN 1");
    }
    Check.dueRun("1IF 1<=1THEN 3\n2PRINT 2\n3IF 1<>1THEN 5\n4PRINT 4\n5END", TinyBasicVm.ST_HALTED, 5, 4, "4");
  }

  private static void greaterWithAnother() {
    Check.sentence("'>' directly followed by '=' forms one two-character symbol.");
    for (String wrong : new String[] {"> =", "><", ">>", ">=<", ">==", ">=>"}) {
      Check.dueBad("1IF A" + wrong + "B THEN 1");
    }
    Check.dueRun("1IF 1>=1THEN 3\n2PRINT 2\n3IF 1>1THEN 5\n4PRINT 4\n5END", TinyBasicVm.ST_HALTED, 5, 4, "4");
  }

  private static void symbols() {
    Check.sentence("symbol: `+ - * / ( ) = < > <= >= <>`");
    for (String symbol : new String[] {"=", "<>", "<", ">", "<=", ">="}) {
      Check.dueGood("1IF A" + symbol + "B THEN 1", "1IF A" + symbol + "-B THEN 1", "1IF A" + symbol + "(B)THEN 1");
    }
    for (String wrong : new String[] {"(", ")", "+", "1", "B", "THEN", "TO", "END", ",", "!=", "#"}) {
      Check.dueBad("1IF A " + wrong + " C THEN 1", "1IF (A) " + wrong + " 2 THEN 1");
    }
    Check.dueBad("1IF A<", "1IF A>", "1IF A==B THEN 1", "1IF A=<B THEN 1", "1IF A=>B THEN 1", "1LET A<=1", "1LET A>=1", "1FOR A<>1TO 2", "1PRINT <>");
  }

  private static void anyOtherCharacter() {
    Check.sentence("Any other character (lower case included) is a syntax error.");
    for (int c = 33; c <= 126; c++) {
      if ("0123456789ABCDEFGHIJKLMNOPQRSTUVWXYZ+-*/()=<>".indexOf(c) < 0) {
        String bad = "" + (char) c;
        Check.dueBad(bad, bad + "1END", "1" + bad + "END", "1END" + bad, "1END " + bad, "1PRINT " + bad, "1PRINT 1" + bad + "1");
        Check.dueBad("1LET " + bad + "=1", "1NEXT " + bad, "1IF 1" + bad + "1THEN 1", "1PRINT (" + bad + ")", "1PRINT -" + bad);
      }
    }
  }

  private static void wholeTokenSequence() {
    Check.sentence("The whole token sequence of a program line must match `line` exactly.");
    String[] lines = {
      "1 LET A = 1", "1 PRINT 1", "1 IF 1 = 1 THEN 1", "1 GOTO 1", "1 GOSUB 1", "1 RETURN", "1 FOR A = 1 TO 1", "1 NEXT A", "1 END"
    };
    for (String line : lines) {
      Check.dueGood(line);
      String[] tokens = line.split(" ");
      for (int i = 0; i < tokens.length; i++) {
        String before = part(tokens, 0, i);
        String after = part(tokens, i + 1, tokens.length);
        if (i > 0) {
          Check.dueBad(before);
        }
        Check.dueBad(before + after, before + "= " + tokens[i] + " " + after, before + ") " + after);
        Check.dueBad(before + tokens[i] + " " + tokens[i] + " " + after);
      }
      for (String more : new String[] {" 1", " A", " END", " )", " (", " =", " THEN 1", " TO 1", " +", " -", " *", " ,"}) {
        Check.dueBad(line + more);
      }
    }
  }

  private static String part(String[] tokens, int from, int to) {
    StringBuilder text = new StringBuilder();
    for (int i = from; i < to; i++) {
      text.append(tokens[i]).append(' ');
    }
    return text.toString();
  }

  private static void lineNumberZero() {
    Check.sentence("number 1..32767 is the line number; 0 is an error");
    Check.dueBad("0END", "0 END", "00END", "00000000000000000000END", "0PRINT 1", "32768END", "-1END", "A END", "END", "1", "0");
    Check.dueGood("1END", "01END", "32767END", "1PRINT 0", "1GOTO 0", "1LET A=0");
    Check.due("the least line number", Check.compiled("1END").lineNumberAt(0), 1);
    Check.due("the greatest line number", Check.compiled("32767END").lineNumberAt(0), 32767);
    Check.dueCompile("1END\n0END", SYNTAX, 2);
  }

  private static void value(String expression, int value) {
    Check.dueRun("1PRINT " + expression, TinyBasicVm.ST_HALTED, -1, 1, "" + value);
  }

  private static void leftAssociative() {
    Check.sentence("expr := term { (+ | -) term }, term := factor { (* | /) factor } (left-associative)");
    value("9-5-3", 1);
    value("9-5+3", 7);
    value("100/10/5", 2);
    value("7/2*2", 6);
    value("2*7/4", 3);
    value("1+2*3-4/2", 5);
    value("8-6/3*2-1", 3);
  }

  private static void factors() {
    Check.sentence("factor := number | var | ( expr ) | - factor");
    value("-".repeat(31) + "7", -7);
    value("-".repeat(32) + "7", 7);
    value("(".repeat(16) + "7" + ")".repeat(16), 7);
    value("-(-(-(-(-(-(-(-(-(-(7))))))))))", 7);
    value("1-(2-(3-(4-(5-(6-(7-8))))))", -4);
    Check.dueBad("1PRINT()", "1PRINT", "1PRINT-", "1PRINT(", "1PRINT(-)", "1PRINT+1", "1PRINT 1-", "1PRINT(1", "1PRINT 1)");
    Check.dueBad("1PRINT *1)", "1PRINT +1)", "1PRINT =1)", "1PRINT TO 1)", "1PRINT 1()", "1PRINT A()", "1PRINT 1(", "1PRINT(1)()");
    Check.dueBad("1PRINT" + "(".repeat(34), "1PRINT" + "-".repeat(34), "1PRINT" + ")".repeat(34), "1PRINT(1)(1)", "1PRINT 1(1)");
    Check.dueBad("1PRINT" + "(".repeat(17) + "7" + ")".repeat(16), "1PRINT" + "(".repeat(16) + "7" + ")".repeat(17));
  }

  private static void anyOrderInTheText() {
    Check.sentence("Lines run in ascending line number, whatever their order in the text.");
    Check.dueRun("32767PRINT 3\n1PRINT 1\n500PRINT 2", TinyBasicVm.ST_HALTED, -1, 3, "1 2 3");
    Check.dueRun("9PRINT 2\n10PRINT 3\n8PRINT 1", TinyBasicVm.ST_HALTED, -1, 3, "1 2 3");
    StringBuilder down = new StringBuilder();
    for (int i = 16; i >= 1; i--) {
      down.append(i).append("PRINT ").append(i).append('\n');
    }
    Check.dueRun(down.toString(), TinyBasicVm.ST_HALTED, -1, 16, "1 2 3 4 5 6 7 8 9 10 11 12 13 14 15 16");
  }

  private static void afterTheLastLine() {
    Check.sentence("If L is the last line, it is END-OF-PROGRAM.");
    String[] lastStatements = {"LET A=1", "PRINT 1", "IF 1=2THEN 5", "FOR I=1TO 9"};
    for (String last : lastStatements) {
      TinyBasicVm vm = Check.compiled("9" + last + "\n5LET B=1");
      Check.due("run with the last line " + last, vm.run(9), TinyBasicVm.ST_HALTED);
      Check.dueStop(last, vm, TinyBasicVm.ST_HALTED, -1, 2);
    }
    Check.dueRun("5FOR I=1TO 1\n9NEXT I", TinyBasicVm.ST_HALTED, -1, 2, "");
    Check.dueRun("1GOTO 9\n5RETURN\n9GOSUB 5", TinyBasicVm.ST_HALTED, -1, 3, "");
  }
}
