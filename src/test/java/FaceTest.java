import java.io.IOException;
import java.lang.reflect.Constructor;
import java.lang.reflect.Field;
import java.lang.reflect.Method;
import java.lang.reflect.Modifier;
import java.nio.file.Files;
import java.nio.file.Path;
import java.util.ArrayList;
import java.util.List;
import java.util.TreeSet;

/** The public face is the document's, and the source keeps to those rules of LANGUAGE.md that words alone show. */
public final class FaceTest {
  private static final Checks CHECKS = new Checks();
  private static final String I = "IndexOutOfBoundsException";
  private static final String A = "IllegalArgumentException";
  private static final String S = "IllegalStateException";
  private static final String[] FACE = {
    "int know(int, int) " + I + " " + A,
    "int put(int, int, int) " + I + " " + A,
    "int putWide(int, int, int, int) " + I + " " + A,
    "int sow(int, int, int) " + I + " " + A,
    "int copy(int, int) " + I,
    "int swap(int, int) " + I,
    "int meet(int, int, int, int) " + I + " " + A,
    "int multiply(int, int, int) " + I,
    "int make(int, int, int) " + I + " " + A,
    "String value(int, int) " + I + " " + A,
    "int half(int, int, boolean) " + I + " " + A,
    "int differ(int, int) " + I,
    "boolean is(int, int) " + I + " " + A,
    "String total(int, int) " + I + " " + A + " " + S,
    "String totalOfProduct(int, int, int, int) " + I + " " + A + " " + S,
    "String determinant(int, int, int) " + I + " " + A + " " + S,
    "int tau(int, int) " + A,
    "int sigma(int, int) " + A,
    "int phi(int, int) " + A,
    "int sign(int, int) " + A,
    "int square(int, int) " + A,
    "int squareless(int, int) " + A,
    "int apart(int, int) " + A,
    "int shared(int, int, boolean) " + A,
    "int divisor(int, int) " + A,
    "String powers(int) " + A,
    "int house(int) " + A,
    "int knock()",
    "boolean isSound()",
    "long digest()",
  };
  private static final String[] RULED_OUT = {
    "import ", "package ", "->", "::", "Exact", "synchronized", "assert", "finally", "static {", "instanceof",
    "System.", "Thread", "Object", "@Override", "hashCode", "catch", "protected", "record ", "Long.toString",
  };

  public static void main(String[] args) throws IOException {
    face();
    source();
    CHECKS.end();
  }

  private static void face() {
    TreeSet<String> wants = new TreeSet<>(List.of(FACE));
    TreeSet<String> got = new TreeSet<>();
    TreeSet<String> names = new TreeSet<>();
    for (Method method : Divisorwork.class.getDeclaredMethods()) {
      if (!Modifier.isPrivate(method.getModifiers())) {
        got.add(told(method));
        names.add(method.getName());
      }
    }
    List<String> others = new ArrayList<>();
    for (Method method : Divisorwork.class.getDeclaredMethods()) {
      if (!Modifier.isPrivate(method.getModifiers()) && method.getModifiers() != Modifier.PUBLIC) {
        others.add(method.toString());
      }
    }
    CHECKS.due("the face", wants, () -> got);
    CHECKS.due("the class", Modifier.PUBLIC | Modifier.FINAL, Divisorwork.class::getModifiers);
    for (Constructor<?> constructor : Divisorwork.class.getDeclaredConstructors()) {
      if (constructor.getModifiers() != Modifier.PUBLIC || constructor.getParameterCount() != 0) {
        others.add(constructor.toString());
      }
    }
    for (Field field : Divisorwork.class.getDeclaredFields()) {
      if (!Modifier.isPrivate(field.getModifiers())) {
        others.add(field.toString());
      }
    }
    List<Class<?>> classes = new ArrayList<>(List.of(Divisorwork.class.getDeclaredClasses()));
    classes.add(Divisorwork.class);
    for (Class<?> inside : classes) {
      staticsAndNames(inside, names, others);
    }
    CHECKS.due("other members that the rules leave out", List.of(), () -> others);
  }

  private static void staticsAndNames(Class<?> inside, TreeSet<String> names, List<String> others) {
    for (Field field : inside.getDeclaredFields()) {
      if (Modifier.isStatic(field.getModifiers()) && !Modifier.isFinal(field.getModifiers())) {
        others.add(field.toString());
      }
    }
    for (Method method : inside.getDeclaredMethods()) {
      boolean isOfTheFace = inside == Divisorwork.class && !Modifier.isPrivate(method.getModifiers());
      if (!isOfTheFace && names.contains(method.getName())) {
        others.add(method.toString());
      }
    }
  }

  private static String told(Method method) {
    StringBuilder text = new StringBuilder();
    text.append(method.getReturnType().getSimpleName()).append(' ').append(method.getName()).append('(');
    String between = "";
    for (Class<?> parameter : method.getParameterTypes()) {
      text.append(between).append(parameter.getSimpleName());
      between = ", ";
    }
    text.append(')');
    for (Class<?> exception : method.getExceptionTypes()) {
      text.append(' ').append(exception.getSimpleName());
    }
    return text.toString();
  }

  private static void source() throws IOException {
    String source = Files.readString(Path.of("src/main/java/Divisorwork.java"));
    String code = source.replaceAll("(?s)/\\*.*?\\*/", "").replaceAll("//[^\n]*", "");
    for (String word : RULED_OUT) {
      CHECKS.due("the source has \"" + word + "\"", false, () -> code.contains(word));
    }
  }
}
