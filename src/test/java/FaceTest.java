import java.lang.reflect.Constructor;
import java.lang.reflect.Field;
import java.lang.reflect.Method;
import java.lang.reflect.Modifier;
import java.util.TreeSet;

/** The class has the members of "The public face" and no other that can be seen from outside. */
public final class FaceTest {
  private static final String[] CONSTANTS = {
    "REFUSED=-1", "C_OK=0", "C_SYNTAX=1", "C_DUP_LINE=2", "C_TOO_MANY_LINES=3", "C_LINE_TOO_LONG=4",
    "ST_IDLE=0", "ST_HALTED=1", "ST_OUT_OF_FUEL=2", "ERR_UNDEFINED_LINE=3", "ERR_RETURN_WITHOUT_GOSUB=4",
    "ERR_NEXT_WITHOUT_FOR=5", "ERR_DIV_ZERO=6", "ERR_GOSUB_OVERFLOW=7", "ERR_FOR_OVERFLOW=8", "ERR_OUTPUT_FULL=9",
    "MAX_CHARS=256", "MAX_LINES=16", "MAX_LINE_LEN=40", "MAX_FUEL=1000", "STACK_GOSUB=0", "STACK_FOR=1"
  };
  private static final String[] METHODS = {
    "boolean put(int,int,int,int)", "void clear()", "int compile()", "int getCompileErrorLine()", "int lineCount()",
    "int lineNumberAt(int)", "int run(int)", "int cont(int)", "int getStatus()", "int getStopLine()",
    "int getSteps()", "int getVar(int)", "int getOutputCount()", "int getOutput(int)", "int getStackDepth(int)"
  };

  public static void main(String[] args) throws Exception {
    Class<?> face = TinyBasicVm.class;
    Check.due("public class", Modifier.isPublic(face.getModifiers()), true);
    Check.due("final class", Modifier.isFinal(face.getModifiers()), true);
    Check.due("super class", face.getSuperclass().getName(), "java.lang.Object");
    Check.due("interfaces", face.getInterfaces().length, 0);
    Check.due("nested classes", face.getDeclaredClasses().length, 0);
    Check.due("constants", visibleFields(face).toString(), sorted(CONSTANTS).toString());
    Check.due("methods", visibleMethods(face).toString(), sorted(METHODS).toString());
    Constructor<?>[] constructors = face.getDeclaredConstructors();
    Check.due("constructors", constructors.length, 1);
    Check.due("constructor", constructors[0].toString(), "public TinyBasicVm(int,int,int)");
    Check.finish();
  }

  private static TreeSet<String> sorted(String[] names) {
    return new TreeSet<>(java.util.List.of(names));
  }

  private static TreeSet<String> visibleFields(Class<?> face) throws Exception {
    TreeSet<String> found = new TreeSet<>();
    for (Field field : face.getDeclaredFields()) {
      if (!Modifier.isPrivate(field.getModifiers())) {
        boolean constant = field.toString().startsWith("public static final int ");
        found.add(field.getName() + "=" + (constant ? field.get(null) : "not a public int constant"));
      }
    }
    return found;
  }

  private static TreeSet<String> visibleMethods(Class<?> face) {
    TreeSet<String> found = new TreeSet<>();
    for (Method method : face.getDeclaredMethods()) {
      if (!Modifier.isPrivate(method.getModifiers())) {
        found.add(method.toString().replace("public ", "").replace("TinyBasicVm.", ""));
      }
    }
    return found;
  }
}
