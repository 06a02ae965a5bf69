import java.io.IOException;
import java.lang.reflect.Constructor;
import java.lang.reflect.Field;
import java.lang.reflect.Method;
import java.lang.reflect.Modifier;
import java.nio.file.Files;
import java.nio.file.Path;
import java.util.ArrayList;
import java.util.Arrays;
import java.util.List;
import java.util.Set;
import java.util.TreeSet;
import java.util.regex.Matcher;
import java.util.regex.Pattern;

/** The rules of ../shared/LANGUAGE.md that can be seen in the program's text or in its classes. */
public final class LanguageTest {
  private static final Path SOURCE = Path.of("src/main/java/HeadStart.java");
  private static final Path DOCUMENT = Path.of("../shared/DOC.md");
  private static final Set<String> WORDS = Set.of("throw", "throws", "try", "catch", "finally", "synchronized", "assert", "native",
      "volatile", "transient", "import", "package", "protected", "record", "var", "yield", "default void");
  private static final Set<String> LIBRARY = Set.of("Math");
  private static final Set<String> OF_MATH = Set.of("min", "max", "abs");

  private static int wrong = 0;

  public static void main(String[] args) throws IOException {
    String text = Files.readString(SOURCE);
    String code = text.replaceAll("(?s)/\\*.*?\\*/", " ").replaceAll("//[^\n]*", " ").replaceAll("'[^'\n]+'", "0");
    words(text, code);
    List<Class<?>> classes = new ArrayList<>(List.of(HeadStart.class));
    classes.addAll(Arrays.asList(HeadStart.class.getDeclaredClasses()));
    holds("no more than twelve classes", classes.size() <= 12);
    for (Class<?> c : classes) members(c);
    face(Files.readString(DOCUMENT));
    lengths(text);
    System.out.println(wrong == 0 ? "the language is kept to" : wrong + " rules are not kept to");
    if (wrong != 0) System.exit(1);
  }

  private static void holds(String rule, boolean does) {
    if (!does) {
      wrong++;
      System.out.println("not kept to: " + rule);
    }
  }

  private static void words(String text, String code) {
    for (char c : text.toCharArray()) {
      if (c != '\n' && (c < 32 || c > 126)) holds("plain letters alone: " + (int) c, false);
    }
    for (String w : WORDS) holds("no word " + w, !Pattern.compile("\\b" + w + "\\b").matcher(code).find());
    for (String s : List.of("->", "::", "\"", "static {")) holds("no " + s, !code.contains(s));
    Set<String> own = new TreeSet<>(List.of("HeadStart"));
    for (Class<?> c : HeadStart.class.getDeclaredClasses()) own.add(c.getSimpleName());
    Matcher m = Pattern.compile("\\b([A-Z][A-Za-z]*[a-z][A-Za-z]*)\\b(\\s*\\.\\s*(\\w+))?").matcher(code);
    while (m.find()) {
      boolean library = LIBRARY.contains(m.group(1)) && m.group(3) != null && OF_MATH.contains(m.group(3));
      holds("no name " + m.group(), library || own.contains(m.group(1)));
    }
  }

  private static void members(Class<?> c) {
    boolean outer = c == HeadStart.class;
    int fields = 0;
    holds(c + " is final", Modifier.isFinal(c.getModifiers()));
    holds(c + " is static if it is inside", outer || Modifier.isStatic(c.getModifiers()) && !Modifier.isPublic(c.getModifiers()));
    for (Field f : c.getDeclaredFields()) {
      if (Modifier.isStatic(f.getModifiers())) {
        holds(f + " is a constant", Modifier.isFinal(f.getModifiers()) && f.getType() == int.class);
      } else {
        fields++;
      }
      holds(f + " is private in the face", !outer || Modifier.isPrivate(f.getModifiers()));
    }
    holds(c + " has twenty fields at most", fields <= 20);
    for (Method method : c.getDeclaredMethods()) holds(method + " takes seven at most", method.getParameterCount() <= 7);
    for (Constructor<?> made : c.getDeclaredConstructors()) {
      for (Class<?> p : made.getParameterTypes()) holds(made + " is handed no object", p == int.class);
    }
    holds(c + " stands alone", c.getSuperclass() == Object.class && c.getInterfaces().length == 0);
    holds(c + " has no classes inside", outer || c.getDeclaredClasses().length == 0);
  }

  private static void face(String document) {
    int from = document.indexOf("public final class HeadStart {");
    String[] lines = document.substring(from, document.indexOf("```", from)).split("\n");
    Set<String> due = new TreeSet<>();
    Set<String> names = new TreeSet<>();
    Matcher m;
    for (String line : lines) {
      m = Pattern.compile("public (int|long) (\\w+)\\((.*)\\);").matcher(line);
      if (!m.find()) continue;
      names.add(m.group(2));
      due.add(m.group(1) + " " + m.group(2) + " " + (m.group(3).isEmpty() ? 0 : m.group(3).split(",").length));
    }
    Set<String> got = new TreeSet<>();
    for (Method method : HeadStart.class.getDeclaredMethods()) {
      if (Modifier.isPublic(method.getModifiers())) {
        got.add(method.getReturnType() + " " + method.getName() + " " + method.getParameterCount());
        for (Class<?> p : method.getParameterTypes()) holds(method + " takes ints", p == int.class);
      } else {
        holds(method + " is private", Modifier.isPrivate(method.getModifiers()));
        holds(method + " bears no public name", !names.contains(method.getName()));
      }
    }
    holds("the face: " + due + " is " + got, due.size() == 52 && got.equals(due));
    for (Class<?> c : HeadStart.class.getDeclaredClasses()) {
      for (Method method : c.getDeclaredMethods()) holds(method + " bears no public name", !names.contains(method.getName()));
    }
    Constructor<?>[] made = HeadStart.class.getDeclaredConstructors();
    holds("one public constructor", made.length == 1 && made[0].getParameterCount() == 0 && Modifier.isPublic(made[0].getModifiers()));
  }

  /** A method's lines are those from its head to the brace under it. */
  private static void lengths(String text) {
    String[] lines = text.split("\n");
    int head = -1;
    String margin = "";
    for (int i = 0; i < lines.length; i++) {
      Matcher m = Pattern.compile("^( {2}| {4})(?!return|if|for|while|switch| |private static final class).*\\) \\{$").matcher(lines[i]);
      if (m.find() && head < 0) {
        head = i;
        margin = m.group(1);
      } else if (head >= 0 && lines[i].equals(margin + "}")) {
        holds("sixty lines at most: " + lines[head].trim(), i - head < 60);
        head = -1;
      }
      holds("a line of 130 letters at most: " + (i + 1), lines[i].length() <= 130);
    }
    holds("each method ends", head < 0);
  }
}
