import com.sun.source.tree.AnnotationTree;
import com.sun.source.tree.ArrayTypeTree;
import com.sun.source.tree.AssertTree;
import com.sun.source.tree.AssignmentTree;
import com.sun.source.tree.BinaryTree;
import com.sun.source.tree.BlockTree;
import com.sun.source.tree.ClassTree;
import com.sun.source.tree.CompilationUnitTree;
import com.sun.source.tree.CompoundAssignmentTree;
import com.sun.source.tree.DoWhileLoopTree;
import com.sun.source.tree.EnhancedForLoopTree;
import com.sun.source.tree.ExpressionTree;
import com.sun.source.tree.ForLoopTree;
import com.sun.source.tree.IdentifierTree;
import com.sun.source.tree.IfTree;
import com.sun.source.tree.InstanceOfTree;
import com.sun.source.tree.LambdaExpressionTree;
import com.sun.source.tree.LiteralTree;
import com.sun.source.tree.MemberReferenceTree;
import com.sun.source.tree.MemberSelectTree;
import com.sun.source.tree.MethodInvocationTree;
import com.sun.source.tree.MethodTree;
import com.sun.source.tree.NewArrayTree;
import com.sun.source.tree.NewClassTree;
import com.sun.source.tree.ParenthesizedTree;
import com.sun.source.tree.PrimitiveTypeTree;
import com.sun.source.tree.SynchronizedTree;
import com.sun.source.tree.ThrowTree;
import com.sun.source.tree.Tree;
import com.sun.source.tree.TryTree;
import com.sun.source.tree.TypeCastTree;
import com.sun.source.tree.UnaryTree;
import com.sun.source.tree.VariableTree;
import com.sun.source.tree.WhileLoopTree;
import com.sun.source.util.JavacTask;
import com.sun.source.util.TreePathScanner;
import com.sun.source.util.TreeScanner;
import com.sun.source.util.Trees;
import java.net.URI;
import java.util.ArrayList;
import java.util.List;
import java.util.Map;
import java.util.Set;
import java.util.TreeMap;
import java.util.TreeSet;
import javax.lang.model.element.Modifier;
import javax.lang.model.type.TypeKind;
import javax.tools.DiagnosticListener;
import javax.tools.JavaFileObject;
import javax.tools.SimpleJavaFileObject;
import javax.tools.ToolProvider;

/** Reads the text of a program and tells which rules of LANGUAGE.md it breaks, as far as a text can show it. */
final class LanguageRules extends TreePathScanner<Void, Void> {
  // LANGUAGE.md says "some sixty" and "some forty": a tenth more is still taken.
  private static final int MAX_METHOD_LINES = 66;
  private static final int MAX_FIELDS = 44;
  private static final int MAX_PARAMETERS = 7;
  private static final int MAX_CALL_DEPTH = 6;
  private static final Set<TypeKind> NUMBERS_AND_TRUTH =
      Set.of(TypeKind.INT, TypeKind.LONG, TypeKind.SHORT, TypeKind.BYTE, TypeKind.CHAR, TypeKind.BOOLEAN);

  private final List<String> faults = new ArrayList<>();
  private final Set<String> names = new TreeSet<>(Set.of("this"));
  private final Set<String> constants = new TreeSet<>();
  private final Set<String> arrayFields = new TreeSet<>();
  private final Set<String> arrays = new TreeSet<>();
  private final Map<String, Set<String>> calls = new TreeMap<>();
  private final String text;
  private CompilationUnitTree unit;
  private JavacTask task;

  private LanguageRules(String text) {
    this.text = text;
  }

  /** Answers one line for each fault, which begins with the number of the rule. */
  static List<String> faultsOf(String name, String text) throws Exception {
    LanguageRules rules = new LanguageRules(text);
    rules.read(name);
    return rules.faults;
  }

  private void read(String name) throws Exception {
    JavaFileObject file = new SimpleJavaFileObject(URI.create("string:///" + name + ".java"), JavaFileObject.Kind.SOURCE) {
      @Override
      public CharSequence getCharContent(boolean ignored) {
        return text;
      }
    };
    // Some samples are no whole Java: what can be read of them is enough.
    DiagnosticListener<JavaFileObject> silent = fault -> { };
    task = (JavacTask) ToolProvider.getSystemJavaCompiler().getTask(null, null, silent, List.of("-proc:none"), null, List.of(file));
    unit = task.parse().iterator().next();
    fault(unit.getPackageName() != null, 1, "a package line");
    fault(!unit.getImports().isEmpty(), 3, "an import");
    fault(unit.getTypeDecls().size() != 1, 1, "not one class");
    for (Tree type : unit.getTypeDecls()) {
      classRules(name, type);
    }
    scan(unit, null);
    for (String method : calls.keySet()) {
      int depth = depth(method, List.of());
      fault(depth > MAX_CALL_DEPTH, 10, method + " calls " + depth + " deep");
    }
  }

  private void fault(boolean found, int rule, String what) {
    if (found) {
      faults.add(rule + ": " + what);
    }
  }

  // ---- the class and its members ----

  private void classRules(String name, Tree type) {
    if (type.getKind() != Tree.Kind.CLASS) {
      fault(true, 1, "something else than a class");
      return;
    }
    ClassTree top = (ClassTree) type;
    Set<Modifier> flags = top.getModifiers().getFlags();
    fault(!top.getSimpleName().contentEquals(name), 1, "the class is not " + name);
    fault(!flags.equals(Set.of(Modifier.PUBLIC, Modifier.FINAL)), 1, "the class is not public and final");
    fault(top.getExtendsClause() != null || !top.getImplementsClause().isEmpty(), 1, "another class above it");
    Set<String> open = new TreeSet<>();
    Set<String> hidden = new TreeSet<>();
    int fields = 0;
    for (Tree member : top.getMembers()) {
      if (member instanceof VariableTree field) {
        fields += field.getModifiers().getFlags().contains(Modifier.STATIC) ? 0 : 1;
        fieldRules(field);
      } else if (member instanceof MethodTree method) {
        methodRules(method);
        (method.getModifiers().getFlags().contains(Modifier.PRIVATE) ? hidden : open).add(method.getName().toString());
      } else if (member instanceof BlockTree block) {
        fault(block.isStatic(), 5, "a static initialiser");
      } else {
        fault(true, 1, "a nested " + member.getKind());
      }
    }
    hidden.retainAll(open);
    fault(!hidden.isEmpty(), 1, "private methods with a public name: " + hidden);
    fault(fields > MAX_FIELDS, 10, fields + " fields");
  }

  private void fieldRules(VariableTree field) {
    String name = field.getName().toString();
    Set<Modifier> flags = field.getModifiers().getFlags();
    names.add(name);
    boolean array = field.getType() instanceof ArrayTypeTree;
    if (array) {
      arrayFields.add(name);
      arrays.add(name);
    }
    boolean constant = flags.contains(Modifier.STATIC) && flags.contains(Modifier.FINAL);
    fault(!flags.contains(Modifier.PRIVATE) && !(constant && flags.contains(Modifier.PUBLIC)), 1, name + " is not private");
    if (flags.contains(Modifier.STATIC)) {
      constants.add(name);
      TypeKind kind = field.getType() instanceof PrimitiveTypeTree type ? type.getPrimitiveTypeKind() : TypeKind.OTHER;
      fault(!constant || field.getInitializer() == null, 5, name + " is static and no constant");
      fault(kind != TypeKind.INT && kind != TypeKind.LONG, 5, name + " is static and neither int nor long");
      fault(field.getInitializer() != null && !callsIn(field.getInitializer()).isEmpty(), 5, name + " is static and worked out");
    }
  }

  private void methodRules(MethodTree method) {
    String name = method.getName().toString();
    Set<Modifier> flags = method.getModifiers().getFlags();
    fault(!flags.contains(Modifier.PRIVATE) && !flags.contains(Modifier.PUBLIC), 1, name + " is seen from the package or below");
    fault(flags.contains(Modifier.SYNCHRONIZED) || flags.contains(Modifier.NATIVE), 6, name + " is " + flags);
    fault(!method.getThrows().isEmpty(), 6, name + " throws");
    fault(method.getReturnType() instanceof ArrayTypeTree, 4, name + " answers an array");
    fault(method.getParameters().size() > MAX_PARAMETERS, 10, name + " has too many parameters");
    int lines = text.substring(start(method), end(method)).split("\n").length;
    fault(lines > MAX_METHOD_LINES, 10, name + " has " + lines + " lines");
    names.add(name);
    fault(calls.containsKey(name), 10, name + " is there twice, and the depth of calls can't be told");
    calls.put(name, callsIn(method.getBody()));
  }

  private int start(Tree tree) {
    return (int) Trees.instance(task).getSourcePositions().getStartPosition(unit, tree);
  }

  private int end(Tree tree) {
    return (int) Trees.instance(task).getSourcePositions().getEndPosition(unit, tree);
  }

  private static Set<String> callsIn(Tree tree) {
    Set<String> found = new TreeSet<>();
    new TreeScanner<Void, Void>() {
      @Override
      public Void visitMethodInvocation(MethodInvocationTree call, Void none) {
        String name = call.getMethodSelect().toString().replace("this.", "");
        // javac writes the call of Object's constructor into a constructor.
        if (!name.equals("super")) {
          found.add(name);
        }
        return super.visitMethodInvocation(call, none);
      }
    }.scan(tree, null);
    return found;
  }

  /** How many methods are under way at once below a call of this one, itself included. */
  private int depth(String method, List<String> above) {
    if (above.contains(method)) {
      fault(true, 8, method + " is called below itself");
      return 0;
    }
    List<String> path = new ArrayList<>(above);
    path.add(method);
    int deepest = 0;
    for (String callee : calls.getOrDefault(method, Set.of())) {
      deepest = Math.max(deepest, depth(callee, path));
    }
    return deepest + 1;
  }

  // ---- what stands inside ----

  private boolean insideConstructor() {
    return enclosingMethod() != null && enclosingMethod().getReturnType() == null;
  }

  private MethodTree enclosingMethod() {
    for (Tree tree : getCurrentPath()) {
      if (tree instanceof MethodTree method) {
        return method;
      }
    }
    return null;
  }

  @Override
  public Void visitVariable(VariableTree variable, Void none) {
    names.add(variable.getName().toString());
    if (variable.getType() instanceof ArrayTypeTree) {
      arrays.add(variable.getName().toString());
    }
    typeRules(variable.getType(), variable.getName().toString());
    return super.visitVariable(variable, none);
  }

  @Override
  public Void visitMethod(MethodTree method, Void none) {
    Tree type = method.getReturnType();
    boolean nothing = type instanceof PrimitiveTypeTree plain && plain.getPrimitiveTypeKind() == TypeKind.VOID;
    if (type != null && !nothing) {
      typeRules(type, method.getName().toString());
    }
    return super.visitMethod(method, none);
  }

  private void typeRules(Tree type, String name) {
    Tree element = type instanceof ArrayTypeTree array ? array.getType() : type;
    boolean known = element instanceof PrimitiveTypeTree plain && NUMBERS_AND_TRUTH.contains(plain.getPrimitiveTypeKind());
    fault(!known, 2, name + " has the type " + type);
  }

  @Override
  public Void visitLiteral(LiteralTree literal, Void none) {
    switch (literal.getKind()) {
      case STRING_LITERAL, FLOAT_LITERAL, DOUBLE_LITERAL -> fault(true, 2, "the literal " + literal);
      case NULL_LITERAL -> fault(true, 4, "null");
      default -> { }
    }
    return null;
  }

  @Override
  public Void visitIdentifier(IdentifierTree identifier, Void none) {
    String name = identifier.getName().toString();
    fault(!names.contains(name) && !name.equals("super"), 3, "the name " + name + " is not of this class");
    return null;
  }

  @Override
  public Void visitMemberSelect(MemberSelectTree select, Void none) {
    boolean own = select.getExpression().toString().equals("this") && names.contains(select.getIdentifier().toString());
    boolean length = select.getIdentifier().contentEquals("length") && !(getCurrentPath().getParentPath().getLeaf() instanceof MethodInvocationTree);
    fault(!own && !length, 3, "use of " + select);
    return super.visitMemberSelect(select, none);
  }

  @Override
  public Void visitMethodInvocation(MethodInvocationTree call, Void none) {
    String name = call.getMethodSelect().toString().replace("this.", "");
    fault(!calls.containsKey(name) && !name.equals("super"), 3, "call of " + name);
    for (ExpressionTree argument : call.getArguments()) {
      fault(!callsIn(argument).isEmpty(), 10, "a call in the arguments of " + name);
      fault(insideConstructor() && isArray(argument), 4, "the constructor hands an array to " + name);
    }
    return super.visitMethodInvocation(call, none);
  }

  @Override
  public Void visitNewClass(NewClassTree made, Void none) {
    fault(true, 4, "an object is made");
    return super.visitNewClass(made, none);
  }

  @Override
  public Void visitNewArray(NewArrayTree made, Void none) {
    boolean inField = enclosingMethod() == null;
    fault(!inField && !insideConstructor(), 4, "an array is made in a method");
    for (Tree above : getCurrentPath()) {
      boolean unsure = above instanceof IfTree || isLoop(above) || above.getKind() == Tree.Kind.CONDITIONAL_EXPRESSION
          || above.getKind() == Tree.Kind.SWITCH;
      fault(unsure, 4, "an array is made in a loop or behind a condition");
    }
    boolean oneLength = made.getDimensions().size() == 1 && made.getInitializers() == null;
    fault(!oneLength, 4, "an array without a plain length");
    if (oneLength) {
      ExpressionTree length = made.getDimensions().get(0);
      boolean literal = length instanceof LiteralTree number && number.getValue() instanceof Integer value && value >= 1;
      fault(!literal && !constants.contains(length.toString()), 4, "an array's length is " + length);
    }
    return super.visitNewArray(made, none);
  }

  @Override
  public Void visitAssignment(AssignmentTree assignment, Void none) {
    String target = assignment.getVariable().toString().replace("this.", "");
    fault(arrayFields.contains(target) && !insideConstructor(), 4, target + " is assigned in a method");
    fault(arrays.contains(target) && insideLoop(), 4, target + " changes to another array in a loop");
    return super.visitAssignment(assignment, none);
  }

  private boolean isArray(ExpressionTree expression) {
    return arrays.contains(expression.toString().replace("this.", ""));
  }

  private boolean insideLoop() {
    for (Tree above : getCurrentPath()) {
      if (isLoop(above)) {
        return true;
      }
    }
    return false;
  }

  private static boolean isLoop(Tree tree) {
    return tree instanceof ForLoopTree || tree instanceof WhileLoopTree || tree instanceof DoWhileLoopTree
        || tree instanceof EnhancedForLoopTree;
  }

  @Override
  public Void visitBinary(BinaryTree both, Void none) {
    boolean compares = both.getKind() == Tree.Kind.EQUAL_TO || both.getKind() == Tree.Kind.NOT_EQUAL_TO;
    fault(compares && (isArray(both.getLeftOperand()) || isArray(both.getRightOperand())), 4, "an array is compared: " + both);
    return super.visitBinary(both, none);
  }

  @Override
  public Void visitTypeCast(TypeCastTree cast, Void none) {
    fault(!(cast.getType() instanceof PrimitiveTypeTree), 6, "a cast to " + cast.getType());
    return super.visitTypeCast(cast, none);
  }

  @Override
  public Void visitThrow(ThrowTree tree, Void none) {
    fault(true, 6, "throw");
    return super.visitThrow(tree, none);
  }

  @Override
  public Void visitTry(TryTree tree, Void none) {
    fault(true, 6, "try");
    return super.visitTry(tree, none);
  }

  @Override
  public Void visitSynchronized(SynchronizedTree tree, Void none) {
    fault(true, 6, "synchronized");
    return super.visitSynchronized(tree, none);
  }

  @Override
  public Void visitAssert(AssertTree tree, Void none) {
    fault(true, 6, "assert");
    return super.visitAssert(tree, none);
  }

  @Override
  public Void visitInstanceOf(InstanceOfTree tree, Void none) {
    fault(true, 6, "instanceof");
    return super.visitInstanceOf(tree, none);
  }

  @Override
  public Void visitLambdaExpression(LambdaExpressionTree tree, Void none) {
    fault(true, 6, "a lambda");
    return super.visitLambdaExpression(tree, none);
  }

  @Override
  public Void visitMemberReference(MemberReferenceTree tree, Void none) {
    fault(true, 6, "a method reference");
    return super.visitMemberReference(tree, none);
  }

  @Override
  public Void visitAnnotation(AnnotationTree tree, Void none) {
    fault(true, 3, "an annotation");
    return null;
  }

  // ---- loops ----

  @Override
  public Void visitForLoop(ForLoopTree loop, Void none) {
    loopRules(loop, loop.getCondition());
    return super.visitForLoop(loop, none);
  }

  @Override
  public Void visitWhileLoop(WhileLoopTree loop, Void none) {
    loopRules(loop, loop.getCondition());
    return super.visitWhileLoop(loop, none);
  }

  @Override
  public Void visitDoWhileLoop(DoWhileLoopTree loop, Void none) {
    loopRules(loop, loop.getCondition());
    return super.visitDoWhileLoop(loop, none);
  }

  /** A counter that the loop itself moves stands against a bound in the loop's condition. */
  private void loopRules(Tree loop, ExpressionTree condition) {
    Set<String> counters = new TreeSet<>();
    compared(condition, counters);
    counters.retainAll(moved(loop));
    fault(counters.isEmpty(), 8, "a loop without a counter against a bound: " + condition);
  }

  private static void compared(ExpressionTree condition, Set<String> found) {
    if (condition instanceof ParenthesizedTree inner) {
      compared(inner.getExpression(), found);
    } else if (condition instanceof BinaryTree both && both.getKind() == Tree.Kind.CONDITIONAL_AND) {
      compared(both.getLeftOperand(), found);
      compared(both.getRightOperand(), found);
    } else if (condition instanceof BinaryTree both) {
      switch (both.getKind()) {
        case LESS_THAN, LESS_THAN_EQUAL, GREATER_THAN, GREATER_THAN_EQUAL -> {
          found.add(both.getLeftOperand().toString());
          found.add(both.getRightOperand().toString());
        }
        default -> { }
      }
    }
  }

  private static Set<String> moved(Tree loop) {
    Set<String> found = new TreeSet<>();
    new TreeScanner<Void, Void>() {
      @Override
      public Void visitUnary(UnaryTree unary, Void none) {
        switch (unary.getKind()) {
          case PREFIX_INCREMENT, PREFIX_DECREMENT, POSTFIX_INCREMENT, POSTFIX_DECREMENT -> found.add(unary.getExpression().toString());
          default -> { }
        }
        return super.visitUnary(unary, none);
      }

      @Override
      public Void visitCompoundAssignment(CompoundAssignmentTree assignment, Void none) {
        found.add(assignment.getVariable().toString());
        return super.visitCompoundAssignment(assignment, none);
      }

      @Override
      public Void visitAssignment(AssignmentTree assignment, Void none) {
        found.add(assignment.getVariable().toString());
        return super.visitAssignment(assignment, none);
      }
    }.scan(loop, null);
    return found;
  }
}
