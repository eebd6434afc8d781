import java.lang.reflect.Method;
import java.lang.reflect.Modifier;
import java.nio.file.Files;
import java.nio.file.Path;
import java.util.regex.Matcher;
import java.util.regex.Pattern;

/** README.md tells the truth: its example answers as it says, each call is named, and each file that it names is there. */
public final class ReadmeTest {
  private static final Pattern EXAMPLE = Pattern.compile("(?s)```java\n(.*?)```");
  private static final Pattern ANSWERED = Pattern.compile("\\s*(?:(\\w+ (\\w+)) = )?(.+); +// (-?\\d+): .+");
  private static final Pattern FILE = Pattern.compile("`((?:src|\\.ci|\\.\\./shared)/[\\w./]+)`");
  private static final Checks checks = new Checks();

  private ReadmeTest() {
  }

  public static void main(String[] args) throws Exception {
    String readme = Files.readString(Path.of("README.md"));
    int examples = 0;
    for (Matcher m = EXAMPLE.matcher(readme); m.find(); examples++) {
      checks.holds("the example answers as it says", holds(m.group(1)));
    }
    checks.holds("there is an example", examples > 0);
    for (Method m : SharedShadow.class.getDeclaredMethods()) {
      boolean isOpen = Modifier.isPublic(m.getModifiers());
      checks.holds("README.md names " + m.getName() + "()", !isOpen || readme.contains("`" + m.getName() + "("));
    }
    for (Matcher m = FILE.matcher(readme); m.find(); ) {
      checks.holds(m.group(1) + " is there", Files.exists(Path.of(m.group(1))));
    }
    checks.end("ReadmeTest");
  }

  /** Whether each line 'call; // answer: words' of an example answers so. */
  private static boolean holds(String example) throws Exception {
    StringBuilder source = new StringBuilder("public final class Example {\n  public static boolean holds() {\n");
    source.append("Checks checks = new Checks();\n");
    for (String line : example.split("\n")) {
      source.append(asked(line)).append('\n');
    }
    source.append("return checks.isClean() && checks.asked() > 0;\n  }\n}\n");
    Compiled compiled = Compiled.from("Example", source.toString());
    return compiled != null && (boolean) compiled.loadClass("Example").getMethod("holds").invoke(null);
  }

  private static String asked(String line) {
    Matcher m = ANSWERED.matcher(line);
    if (!m.matches()) {
      return line;
    }
    String kept = m.group(1) == null ? "" : m.group(1) + " = " + m.group(3) + "; ";
    String what = m.group(1) == null ? m.group(3) : m.group(2);
    return kept + "checks.due(\"" + m.group(3) + "\", " + what + ", " + m.group(4) + ");";
  }
}
