import java.io.IOException;
import java.lang.reflect.Constructor;
import java.lang.reflect.Field;
import java.lang.reflect.Method;
import java.lang.reflect.Modifier;
import java.nio.file.Files;
import java.nio.file.Path;
import java.util.ArrayList;
import java.util.Arrays;
import java.util.List;
import java.util.Set;
import java.util.TreeSet;
import java.util.regex.Matcher;
import java.util.regex.Pattern;

/** The public face, and those rules of LANGUAGE.md that can be seen in the classes or in the text (its number stands in front). */
public final class FaceTest {
  private static final String SOURCE = "src/main/java/SwarmHouse.java";
  private static final String[] FACE = {
    "int feed(int, int, int, int, int)", "int field(int)", "int fault(int)", "boolean mass(int)", "int pull(int, int, int, int)",
    "boolean star(int, int, int, int, int)", "int go(int)", "int starred(int)", "boolean length(int)", "int orbit(int, int, int, int)",
    "long told(int, int)", "int at(int, int, int)", "int back(int, int)", "boolean alike(int, int)", "boolean tune(int, int, int)",
    "boolean cells(int, int)", "int share(int, int, int)", "boolean portions(int)", "int sight(int, int, int, int)", "int strike(int)",
    "int fits(int)", "int weight(int, int, int)", "int range(int, int, int, boolean)", "int quarrel(int)", "int models(int, int)",
    "int stream(int, int, int, int, int, int, int, int, int, int)", "long trail()", "int bent(int, long)", "int count(int)"};
  private static int wrong = 0;

  private static void bad(String what) {
    wrong++;
    System.out.println(what);
  }

  public static void main(String[] args) throws IOException {
    face();
    classes();
    text(Files.readString(Path.of(SOURCE)));
    System.out.println(wrong == 0 ? "the face is as due" : wrong + " things are not as due");
    if (wrong != 0) System.exit(1);
  }

  private static void face() {
    Class<?> c = SwarmHouse.class;
    if (!Modifier.isPublic(c.getModifiers()) || !Modifier.isFinal(c.getModifiers())) bad("1: the class is not public and final");
    Set<String> open = new TreeSet<>();
    Set<String> names = new TreeSet<>();
    for (Method m : c.getDeclaredMethods()) {
      if (Modifier.isPrivate(m.getModifiers())) continue;
      List<String> types = new ArrayList<>();
      for (Class<?> t : m.getParameterTypes()) types.add(t.getName());
      open.add(m.getReturnType().getName() + " " + m.getName() + "(" + String.join(", ", types) + ")");
      names.add(m.getName());
    }
    Set<String> due = new TreeSet<>(Arrays.asList(FACE));
    if (!open.equals(due)) bad("1: the methods are " + open);
    for (Constructor<?> k : c.getDeclaredConstructors()) {
      if (!Modifier.isPublic(k.getModifiers()) || k.getParameterCount() != 0) bad("1: another constructor");
    }
    for (Field f : c.getDeclaredFields()) {
      boolean isNone = f.getName().equals("NONE");
      if (!isNone && !Modifier.isPrivate(f.getModifiers())) bad("1: " + f.getName() + " can be seen");
    }
    List<Class<?>> all = new ArrayList<>(List.of(c.getDeclaredClasses()));
    all.add(c);
    for (Class<?> one : all) {
      for (Method m : one.getDeclaredMethods()) {
        if (Modifier.isPrivate(m.getModifiers()) && names.contains(m.getName())) bad("1: a private method " + m.getName());
      }
    }
  }

  private static void classes() {
    Class<?>[] inside = SwarmHouse.class.getDeclaredClasses();
    if (inside.length > 11) bad("11: more than twelve classes");
    for (Class<?> c : inside) {
      if (!Modifier.isStatic(c.getModifiers())) bad("2: " + c + " is not static");
      if (c.getDeclaredFields().length > 20) bad("11: " + c + " has many fields");
      for (Field f : c.getDeclaredFields()) if (Modifier.isStatic(f.getModifiers()) && !Modifier.isFinal(f.getModifiers())) bad("5: " + f);
      for (Method m : c.getDeclaredMethods()) if (m.getParameterCount() > 7) bad("11: " + m);
    }
  }

  private static void text(String source) {
    String code = source.replaceAll("(?s)/\\*.*?\\*/", "").replaceAll("//[^\n]*", "").replaceAll("'[^']'", "0").replaceAll("\"[^\"]*\"", "0");
    String[] banned = {"throw", "throws", "try", "catch", "finally", "synchronized", "assert", "package", "float", "double", "Exact", "Random", "System\\.[a-z]+Time"};
    for (String word : banned) if (Pattern.compile("\\b" + word + "\\b").matcher(code).find()) bad("6, 13: " + word);
    if (code.contains("->") || code.contains("::")) bad("2: a lambda or a method reference");
    Matcher imports = Pattern.compile("import ([^;]+);").matcher(code);
    while (imports.find()) if (!imports.group(1).equals("java.util.Arrays")) bad("4: import " + imports.group(1));
    Matcher calls = Pattern.compile("\\b(Math|Integer|Long|Arrays|System)\\.(\\w+)").matcher(code);
    Set<String> fine = Set.of("Math.min", "Math.max", "Math.abs", "Integer.bitCount", "Long.bitCount", "Arrays.fill");
    while (calls.find()) if (!fine.contains(calls.group())) bad("4: " + calls.group());
    for (char c : source.toCharArray()) if (c != '\n' && (c < 32 || c > 126)) bad("a sign " + (int) c + " in the source");
    shortMethods(code);
  }

  private static void shortMethods(String code) {
    String[] lines = code.split("\n");
    int start = -1;
    String end = "";
    for (int i = 0; i < lines.length; i++) {
      String blanks = lines[i].substring(0, lines[i].length() - lines[i].stripLeading().length());
      if (start < 0 && lines[i].matches("(    |        )\\S.*\\) \\{")) { start = i; end = blanks + "}"; }
      if (start >= 0 && lines[i].equals(end)) {
        if (i - start > 60) bad("11: a method of " + (i - start) + " lines at " + lines[start]);
        start = -1;
      }
    }
  }
}
