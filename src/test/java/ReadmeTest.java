import java.io.IOException;
import java.lang.reflect.InvocationTargetException;
import java.lang.reflect.Method;
import java.lang.reflect.Modifier;
import java.nio.file.Files;
import java.nio.file.Path;
import java.util.regex.Matcher;
import java.util.regex.Pattern;

/** The example of README.md answers what stands there; each call of the face is named there. */
public final class ReadmeTest {
  private static final Check C = new Check("ReadmeTest");

  public static void main(String[] args) throws IOException, ReflectiveOperationException {
    Path root = Path.of(System.getProperty("project.root", "."));
    String readme = Files.readString(root.resolve("README.md"));
    for (Method method : GuildCharter.class.getDeclaredMethods()) {
      boolean named = readme.contains("`" + method.getName() + "`");
      C.due(method.getName() + " is named", named || !Modifier.isPublic(method.getModifiers()), true);
    }
    C.due("the command is named", readme.contains("\n.ci/run\n"), true);
    helperTest(readme, Files.readString(root.resolve("src/test/java/ReadmeTest.java")));
    exampleTest(readme);
    C.finish();
  }

  /** README's helper is the one below, so that the example is run with it. */
  private static void helperTest(String readme, String source) {
    String helper = between(readme, "static int tell(", "```");
    C.due("the helper is the tested one", plain(source).contains(plain(helper)), true);
  }

  private static String between(String text, String first, String behind) {
    int from = text.indexOf(first);
    int to = from < 0 ? -1 : text.indexOf(behind, from);
    C.due("'" + first + "' stands there", to >= 0, true);
    return to < 0 ? first : text.substring(from, to);
  }

  private static String plain(String code) {
    return code.replaceAll("\\s+", " ").trim();
  }

  static int tell(GuildCharter x, String text) {
    int[] five = new int[5];
    x.end(0);
    for (int from = 0; from < text.length(); from += 20) {
      for (int i = 0; i < 20; i++) {
        int sign = from + i < text.length() ? text.charAt(from + i) : ' ';
        five[i / 4] = five[i / 4] << 8 | sign;
      }
      x.feed(five[0], five[1], five[2], five[3], five[4]);
    }
    x.end(text.length());
    return x.port();
  }

  private static void exampleTest(String readme) throws IllegalAccessException, InvocationTargetException {
    GuildCharter x = new GuildCharter();
    String text = between(readme, "word ale", "```").replaceAll(";.*", ";");
    Matcher line = Pattern.compile("(\\w+)\\((.*)\\); +// (-?\\d+|true|false): ").matcher(between(readme, "new GuildCharter();\n", "```"));
    int lines = 0;
    while (line.find()) {
      lines++;
      String call = line.group(1);
      String got = call.equals("tell") ? String.valueOf(tell(x, text)) : String.valueOf(answer(x, call, line.group(2)));
      C.due(line.group() + "answered " + got + "; the same", got.equals(line.group(3)), true);
    }
    C.due("lines of the example", lines, 29);
  }

  private static Object answer(GuildCharter x, String call, String told) throws IllegalAccessException, InvocationTargetException {
    String[] parts = told.isEmpty() ? new String[0] : told.split(", ");
    for (Method method : GuildCharter.class.getDeclaredMethods()) {
      if (method.getName().equals(call) && method.getParameterCount() == parts.length) {
        Object[] arguments = new Object[parts.length];
        for (int i = 0; i < parts.length; i++) {
          boolean truth = method.getParameterTypes()[i] == boolean.class;
          arguments[i] = truth ? (Object) Boolean.valueOf(parts[i]) : (Object) Integer.valueOf(parts[i]);
        }
        return method.invoke(x, arguments);
      }
    }
    return "nothing";
  }
}
