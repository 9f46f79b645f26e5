import java.nio.file.Files;
import java.nio.file.Path;
import java.util.ArrayList;
import java.util.LinkedHashMap;
import java.util.List;
import java.util.Map;
import java.util.TreeSet;
import java.util.regex.Matcher;
import java.util.regex.Pattern;

/** The rules of LANGUAGE.md, as far as the program's text shows them. */
public final class LanguageTest {
  private static final int MAX_CALL_DEPTH = 6;
  private static final int MAX_METHOD_LINES = 60;
  private static final int MAX_PARAMETERS = 7;
  private static final int MAX_FIELDS = 40;
  private static final Pattern METHOD = Pattern.compile(
      "(?m)^  (?:public|private) (?:static )?(?:\\w+ )?(\\w+)\\(([^)]*)\\) \\{\\n(.*?)\\n  \\}$", Pattern.DOTALL);
  private static final Pattern CALL = Pattern.compile("\\b([a-zA-Z]\\w*)\\(");

  public static void main(String[] args) throws Exception {
    String text = withoutComments(Files.readString(Path.of("src/main/java/TinyBasicVm.java")));
    words(text);
    members(text);
    methods(text);
    Check.finish();
  }

  private static String withoutComments(String text) {
    String plain = text.replaceAll("(?s)/\\*.*?\\*/", "").replaceAll("//[^\\n]*", "");
    return plain.replaceAll("'[^']'", "0");
  }

  private static void words(String text) {
    String[] forbidden = {
      "import", "package", "throw", "throws", "try", "catch", "finally", "synchronized", "assert", "instanceof", "null",
      "float", "double", "String", "Object", "Math", "Integer", "System", "Arrays", "interface", "enum", "record",
      "protected", "super", "var", "goto"
    };
    for (String word : forbidden) {
      Check.due("uses of " + word, count(text, "\\b" + word + "\\b"), 0);
    }
    Check.due("classes", count(text, "\\bclass\\b"), 1);
    Check.due("lambdas and method references", count(text, "->|::"), 0);
    Check.due("strings", count(text, "\""), 0);
    Check.due("calls on an object or a class", count(text, "\\.\\s*\\w+\\s*\\("), 0);
    Check.due("arrays of arrays", count(text, "\\]\\s*\\[\\s*\\]|\\[\\s*\\]\\s*\\["), 0);
  }

  private static int count(String text, String pattern) {
    Matcher matcher = Pattern.compile(pattern).matcher(text);
    int count = 0;
    while (matcher.find()) {
      count++;
    }
    return count;
  }

  private static void members(String text) {
    int made = count(text, "\\bnew\\b");
    int madeAsFields = count(text, "(?m)^  private final int\\[\\] \\w+ = new int\\[(\\d+|[A-Z_]+)\\];$");
    Check.due("arrays made outside the fields' initialisers", made - madeAsFields, 0);
    int fields = count(text, "(?m)^  private (?!static)[^(]*;$");
    Check.due("no more than " + MAX_FIELDS + " fields", fields > 0 && fields <= MAX_FIELDS, true);
    int statics = count(text, "\\bstatic (?=\\w+ \\w+ [\\w]+ =|final)");
    Check.due("static fields that are constants", count(text, "\\bstatic final int [A-Z_]+ =\\s"), statics);
  }

  private static void methods(String text) {
    Map<String, String> bodies = new LinkedHashMap<>();
    Matcher matcher = METHOD.matcher(text);
    while (matcher.find()) {
      String name = matcher.group(1);
      String body = matcher.group(3);
      Check.due("methods of the name " + name, bodies.put(name, body) == null, true);
      Check.due(name + " is short", body.split("\n").length <= MAX_METHOD_LINES, true);
      Check.due(name + " has few parameters", matcher.group(2).split(",").length <= MAX_PARAMETERS, true);
    }
    Check.due("methods found", bodies.size(), count(text, "(?m)^  (public|private) [^=;]*\\{$"));
    for (String name : bodies.keySet()) {
      Check.due(name + " hands no call to a call", nestedCalls(bodies.get(name)), "[]");
      int depth = depth(name, bodies, new ArrayList<>());
      Check.due(name + " calls at most " + MAX_CALL_DEPTH + " deep", depth <= MAX_CALL_DEPTH, true);
    }
  }

  private static TreeSet<String> callsIn(String body) {
    TreeSet<String> calls = new TreeSet<>();
    Matcher matcher = CALL.matcher(body);
    while (matcher.find()) {
      calls.add(matcher.group(1));
    }
    calls.removeAll(List.of("if", "for", "while", "switch", "return"));
    return calls;
  }

  /** How many methods are under way at once below a call of this one, itself included. */
  private static int depth(String name, Map<String, String> bodies, List<String> above) {
    Check.due(name + " below " + above + " is no recursion", above.contains(name), false);
    if (above.contains(name)) {
      return 0;
    }
    List<String> path = new ArrayList<>(above);
    path.add(name);
    int deepest = 0;
    for (String callee : callsIn(bodies.get(name))) {
      Check.due(callee + " is a method of the class", bodies.containsKey(callee), true);
      if (bodies.containsKey(callee)) {
        deepest = Math.max(deepest, depth(callee, bodies, path));
      }
    }
    return deepest + 1;
  }

  private static String nestedCalls(String body) {
    TreeSet<String> nested = new TreeSet<>();
    Matcher matcher = CALL.matcher(body);
    while (matcher.find()) {
      if (callsIn(matcher.group()).isEmpty()) {
        continue;
      }
      int end = matcher.end();
      for (int open = 1; open > 0; end++) {
        open += body.charAt(end) == '(' ? 1 : body.charAt(end) == ')' ? -1 : 0;
      }
      for (String inner : callsIn(body.substring(matcher.end(), end))) {
        nested.add(matcher.group(1) + "(" + inner + ")");
      }
    }
    return nested.toString();
  }
}
