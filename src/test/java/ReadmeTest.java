import java.io.ByteArrayOutputStream;
import java.io.IOException;
import java.io.PrintStream;
import java.lang.reflect.Method;
import java.lang.reflect.Modifier;
import java.nio.file.Files;
import java.nio.file.Path;

/** README.md: the example on it is Example.java and prints what it says, and each call of the face has its row. */
public final class ReadmeTest {
  private static int wrong = 0;

  private static void check(boolean fine, String what) {
    if (!fine) {
      wrong++;
      System.out.println("README.md: " + what);
    }
  }

  public static void main(String[] args) throws IOException {
    String page = Files.readString(Path.of("README.md"));
    check(page.contains("```java\n" + Files.readString(Path.of("src/test/java/Example.java")) + "```"), "the example is not Example.java");
    check(page.contains("```text\n" + printed() + "```"), "the example prints something else");
    for (Method m : SwarmHouse.class.getDeclaredMethods()) {
      if (Modifier.isPublic(m.getModifiers())) check(hasRow(page, m), "no row for " + m.getName());
    }
    System.out.println(wrong == 0 ? "README.md is as due" : wrong + " things on README.md are not as due");
    if (wrong != 0) System.exit(1);
  }

  private static String printed() {
    PrintStream before = System.out;
    ByteArrayOutputStream bytes = new ByteArrayOutputStream();
    System.setOut(new PrintStream(bytes));
    Example.main(new String[0]);
    System.out.flush();
    System.setOut(before);
    return bytes.toString().replace("\r\n", "\n");
  }

  /** A row begins with the call and as many names as it takes numbers. */
  private static boolean hasRow(String page, Method m) {
    StringBuilder names = new StringBuilder();
    for (int i = 0; i < m.getParameterCount(); i++) names.append(i == 0 ? "\\w+" : ", \\w+");
    return java.util.regex.Pattern.compile("\n\\| `" + m.getName() + "\\(" + names + "\\)` \\|").matcher(page).find();
  }
}
