import java.io.IOException;
import java.lang.reflect.Method;
import java.lang.reflect.Modifier;
import java.nio.file.Files;
import java.nio.file.Path;
import java.util.List;

/** What README.md tells is so: the answers in its example, every method of the face, every test. */
public final class ReadmeTest {
  private static final Checks CHECKS = new Checks();
  private static final String PRINTED = "System.out.println(";

  private static List<String> lines = List.of();
  private static int asked = 0;

  public static void main(String[] args) throws IOException {
    lines = Files.readAllLines(Path.of("README.md"));
    example();
    everyMethod();
    everyTest();
    CHECKS.end();
  }

  /** The same calls in the same sequence as there. */
  private static void example() {
    Divisorwork x = new Divisorwork();
    done("x.know(0, 1)");
    x.know(0, 1);
    done("x.know(1, 2)");
    x.know(1, 2);
    done("x.multiply(0, 1, 2)");
    x.multiply(0, 1, 2);
    told("x.value(2, 12)", () -> x.value(2, 12));
    told("x.total(2, 12)", () -> x.total(2, 12));
    told("x.totalOfProduct(0, 1, 12, 2)", () -> x.totalOfProduct(0, 1, 12, 2));
    done("x.make(0, 0, 3)");
    x.make(0, 0, 3);
    told("x.value(3, 30)", () -> x.value(3, 30));
    told("x.is(3, 0)", () -> x.is(3, 0));
    done("x.putWide(3, 1, 0x7FFFFFFF, -1)");
    x.putWide(3, 1, 0x7FFFFFFF, -1);
    told("x.make(3, 5, 2)", () -> x.make(3, 5, 2));
    told("x.meet(3, 0, 0, 2)", () -> x.meet(3, 0, 0, 2));
    told("x.house(1)", () -> x.house(1));
    told("x.phi(840, 1)", () -> x.phi(840, 1));
    told("x.powers(720)", () -> x.powers(720));
    int calls = 0;
    for (String line : lines) {
      calls += line.startsWith("    ") && line.contains("x.") && line.contains("; ") ? 1 : 0;
    }
    int inReadme = calls;
    CHECKS.due("the calls of the example that are asked here", inReadme, () -> asked);
  }

  private static String lineOf(String code) {
    for (String line : lines) {
      if (line.contains(code)) {
        return line;
      }
    }
    return "";
  }

  private static void done(String call) {
    asked++;
    CHECKS.due("README.md has " + call, true, () -> lineOf("    " + call + ";").contains("//"));
  }

  /** The answer stands behind the slashes, up to a comma or a colon. */
  private static void told(String call, Checks.Call answer) {
    asked++;
    String line = lineOf(PRINTED + call + ");");
    String want = line.contains("//") ? line.substring(line.indexOf("//") + 2).split("[,:]")[0].trim() : "not asked there";
    CHECKS.due("README.md: " + call, want, answer);
  }

  private static void everyMethod() {
    for (Method method : Divisorwork.class.getDeclaredMethods()) {
      if (Modifier.isPublic(method.getModifiers())) {
        CHECKS.due("README.md has a table's row of " + method.getName(), true,
            () -> isInTable("`" + method.getName() + "("));
      }
    }
  }

  private static void everyTest() throws IOException {
    try (var files = Files.list(Path.of("src/test/java"))) {
      for (Path file : files.toList()) {
        String name = file.getFileName().toString().replace(".java", "");
        if (name.endsWith("Test")) {
          CHECKS.due("README.md has a table's row of " + name, true, () -> isInTable("| `" + name + "` |"));
        }
      }
    }
  }

  private static boolean isInTable(String text) {
    for (String line : lines) {
      if (line.startsWith("| ") && line.contains(text)) {
        return true;
      }
    }
    return false;
  }
}
