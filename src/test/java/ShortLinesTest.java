/** The grammar: every short line that can be written, compiled and run by the program and by the reference alike. */
public final class ShortLinesTest {
  private static final String[] TOKENS = {
    " 5", " 0", " A", " LET", " PRINT", " IF", " THEN", " GOTO", " GOSUB", " RETURN", " FOR", " TO", " NEXT", " END",
    "+", "-", "*", "/", "(", ")", "=", "<", ">", "<=", ">=", "<>"
  };
  private static final String[] EXPRESSION_CHARACTERS = {"1", "0", "A", "+", "-", "*", "/", "(", ")", "<", "="};
  private static final String[] BEFORE_EXPRESSION = {
    "5PRINT ", "5LET A=", "5GOTO ", "5GOSUB ", "5IF 1<", "5IF 1=1 THEN ", "5FOR A=", "5FOR A=1 TO "
  };

  public static void main(String[] args) {
    everyLine("5", TOKENS, 3, "");
    everyLine("5 LET A", TOKENS, 2, "");
    everyLine("5 FOR A=1", TOKENS, 2, "");
    everyLine("5 FOR", TOKENS, 2, "1 TO 2");
    everyLine("5 IF A=1", TOKENS, 2, "");
    everyLine("5 IF A", TOKENS, 2, "A THEN 5");
    for (String start : BEFORE_EXPRESSION) {
      everyLine(start, EXPRESSION_CHARACTERS, 3, "");
    }
    everyLine("5PRINT ", EXPRESSION_CHARACTERS, 4, "");
    String[] characters = everyCharacter();
    everyLine("", characters, 2, "");
    everyLine("", characters, 2, "END");
    everyLine("5PRINT 1", characters, 2, "");
    everyLine("5IF 1", characters, 2, "2THEN 5");
    everyLine("5IF 1", characters, 2, "1THEN 5");
    Check.finish();
  }

  private static String[] everyCharacter() {
    String[] characters = new String[96];
    characters[0] = "\n";
    for (int i = 1; i < characters.length; i++) {
      characters[i] = Character.toString(31 + i);
    }
    return characters;
  }

  /** The lines from start to end with at most this many parts between them. */
  private static void everyLine(String start, String[] parts, int most, String end) {
    dueAlike(start + end);
    if (most > 0) {
      for (String part : parts) {
        everyLine(start + part, parts, most - 1, end);
      }
    }
  }

  private static void dueAlike(String text) {
    TinyBasicVm vm = new TinyBasicVm(2, 2, 2);
    Reference reference = new Reference(2, 2, 2);
    for (int i = 0; i < text.length(); i += 4) {
      int[] c = new int[4];
      for (int j = 0; j < 4 && i + j < text.length(); j++) {
        c[j] = text.charAt(i + j);
      }
      vm.put(c[0], c[1], c[2], c[3]);
      reference.put(c);
    }
    Check.due("compile of " + Check.quote(text), vm.compile(), reference.compile());
    Check.due("run of " + Check.quote(text), vm.run(5), reference.run(5));
    Check.due("state after " + Check.quote(text), Check.wholeState(vm), reference.wholeState());
  }
}
