import java.io.IOException;
import java.lang.reflect.Method;
import java.nio.file.Files;
import java.nio.file.Path;
import java.util.regex.Matcher;
import java.util.regex.Pattern;

/** What README.md says of the class: its example answers what stands behind it, its table names each call. */
public final class ReadmeTest {
  private static final Pattern LETTERS = Pattern.compile("^for \\(char letter : \"([^\"]*)\"\\.toCharArray\\(\\)\\) x\\.feed\\(letter\\);$");
  private static final Pattern CALL = Pattern.compile("^x\\.(\\w+)\\(([-\\d, ]*)\\);\\s+// (-?\\d+): .+$");

  private static int wrong = 0;

  public static void main(String[] args) throws IOException {
    String text = Files.readString(Path.of("README.md"));
    int asked = example(text);
    holds("the example has calls", asked >= 10);
    String table = text.substring(Math.max(0, text.indexOf("| to | call |")));
    for (Method m : HeadStart.class.getDeclaredMethods()) {
      boolean face = java.lang.reflect.Modifier.isPublic(m.getModifiers());
      if (face) holds("the table names " + m.getName(), table.contains("`" + m.getName() + "`"));
    }
    System.out.println(wrong == 0 ? "README.md is right" : wrong + " of README.md are not right");
    if (wrong != 0) System.exit(1);
  }

  private static void holds(String what, boolean does) {
    if (does) return;
    wrong++;
    System.out.println("not so: " + what);
  }

  private static int example(String text) {
    int from = text.indexOf("```java\n") + "```java\n".length();
    Noted x = new Noted();
    int asked = 0;
    for (String line : text.substring(from, text.indexOf("```", from)).split("\n")) {
      Matcher letters = LETTERS.matcher(line);
      Matcher call = CALL.matcher(line);
      if (letters.matches()) {
        for (char letter : letters.group(1).toCharArray()) x.feed(letter);
      } else if (call.matches()) {
        asked++;
        answers(x, line, call);
      } else {
        holds("understood: " + line, line.startsWith("//") || line.equals("HeadStart x = new HeadStart();"));
      }
    }
    return asked;
  }

  private static void answers(Noted x, String line, Matcher call) {
    String[] told = call.group(2).isEmpty() ? new String[0] : call.group(2).split(", *");
    int[] numbers = new int[told.length];
    for (int i = 0; i < told.length; i++) numbers[i] = Integer.parseInt(told[i]);
    long got = x.call(call.group(1), numbers);
    holds(line + " answered " + got, got == Long.parseLong(call.group(3)));
  }
}
