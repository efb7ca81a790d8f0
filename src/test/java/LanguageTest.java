import java.io.IOException;
import java.lang.reflect.Constructor;
import java.lang.reflect.Field;
import java.lang.reflect.Method;
import java.lang.reflect.Modifier;
import java.nio.file.Files;
import java.nio.file.Path;
import java.util.Arrays;
import java.util.List;
import java.util.Set;
import java.util.TreeSet;
import java.util.regex.Matcher;
import java.util.regex.Pattern;

/** The rules of LANGUAGE.md, as far as they can be seen in the source's words and in the compiled classes. */
public final class LanguageTest {
  private static final Check CHECK = new Check("LanguageTest");
  private static final String FACE = "int feed(int,int,int,int,int) int end(int) int port() int fault(int) int worth(int,int) "
      + "int behind(int,int,int) int turn(int) int write(int) int sell(int,int) boolean undo() boolean redo() int wipe() "
      + "int word(int) int next() int readings() int means(int) int written(int) int held(int) int share(int,int) int swap() "
      + "int bribe(int,int) int used() int shortest(int) int doubtful() int lots(int) boolean hole(int,int) int fit() "
      + "int best(int) int struck(int) int lies(int) int seen(int,int,boolean) boolean untell(int) int later(int) int orders(int) "
      + "int image(int) int back(int) int about(int)";

  public static void main(String[] args) throws IOException {
    face();
    shapes();
    Path root = Path.of(System.getProperty("project.root", "."));
    words(Files.readString(root.resolve("src/main/java/GuildCharter.java")));
    CHECK.finish();
  }

  private static void face() {
    Set<String> want = new TreeSet<>();
    Matcher m = Pattern.compile("(int|boolean) (\\w+)\\(([a-z,]*)\\)").matcher(FACE);
    while (m.find()) {
      want.add(m.group());
    }
    Set<String> publicOnes = new TreeSet<>();
    Set<String> publicNames = new TreeSet<>();
    for (Method method : GuildCharter.class.getDeclaredMethods()) {
      if (Modifier.isPublic(method.getModifiers())) {
        publicOnes.add(method.getReturnType() + " " + method.getName() + "("
            + String.join(",", Arrays.stream(method.getParameterTypes()).map(Class::getName).toList()) + ")");
        publicNames.add(method.getName());
        CHECK.due(method + " is an object's", Modifier.isStatic(method.getModifiers()), false);
      }
    }
    CHECK.due("the face " + want + " is " + publicOnes, want.equals(publicOnes), true);
    for (Method method : GuildCharter.class.getDeclaredMethods()) {
      boolean open = Modifier.isPublic(method.getModifiers());
      CHECK.due(method + " is public or private", open || Modifier.isPrivate(method.getModifiers()), true);
      CHECK.due(method + " has a name of its own", open || !publicNames.contains(method.getName()), true);
    }
    for (Field field : GuildCharter.class.getDeclaredFields()) {
      boolean constant = List.of("NONE", "GAP").contains(field.getName());
      int wanted = constant ? Modifier.PUBLIC | Modifier.STATIC | Modifier.FINAL : Modifier.PRIVATE;
      CHECK.due(field + " is as open as it may be", (field.getModifiers() & wanted) == wanted, true);
    }
    Constructor<?>[] made = GuildCharter.class.getDeclaredConstructors();
    CHECK.due("constructors", made.length, 1);
    CHECK.due("of no arguments", made[0].getParameterCount(), 0);
    CHECK.due("which is public", Modifier.isPublic(made[0].getModifiers()), true);
    CHECK.due("the class is public and final", GuildCharter.class.getModifiers() & 17, 17);
  }

  private static void shapes() {
    Class<?>[] inside = GuildCharter.class.getDeclaredClasses();
    CHECK.due("some twelve classes", inside.length <= 11, true);
    shape(GuildCharter.class);
    for (Class<?> one : inside) {
      CHECK.due(one + " is static", Modifier.isStatic(one.getModifiers()), true);
      CHECK.due(one + " is not open", (one.getModifiers() & (Modifier.PUBLIC | Modifier.PROTECTED)) == 0, true);
      shape(one);
    }
  }

  private static void shape(Class<?> one) {
    int fields = 0;
    for (Field field : one.getDeclaredFields()) {
      if (Modifier.isStatic(field.getModifiers())) {
        CHECK.due(field + " is final", Modifier.isFinal(field.getModifiers()), true);
        boolean sort = List.of("int", "long", "boolean", "char", "class java.lang.String", "class [I", "class [J", "class [C", "class [B")
            .contains(field.getType().toString());
        CHECK.due(field + " is of a sort that may be static", sort, true);
      } else {
        fields++;
      }
    }
    CHECK.due(one + " has some twenty fields", fields <= 20, true);
    for (Method method : one.getDeclaredMethods()) {
      CHECK.due(method + " takes at most seven", method.getParameterCount() <= 7, true);
    }
  }

  private static void words(String source) {
    String code = source.replaceAll("(?s)/\\*.*?\\*/", " ").replaceAll("//[^\n]*", " ");
    String bare = code.replaceAll("\"[^\"]*\"", "\"\"").replaceAll("'[^']*'", "' '");
    for (String word : new String[] {"throw", "throws", "try", "catch", "finally", "synchronized", "assert", "package", "volatile",
      "native", "transient", "strictfp", "Object", "System.out", "System.currentTimeMillis", "Random", "Thread", "hashCode",
      "toString", "protected", "yield"}) {
      boolean found = Pattern.compile("\\b" + Pattern.quote(word) + "\\b").matcher(bare).find();
      CHECK.due("the source says " + word, found, false);
    }
    for (String sign : new String[] {"->", "::", "Exact(", "static {", "@", "while (true", "for (;;"}) {
      CHECK.due("the source says " + sign, bare.contains(sign), false);
    }
    Matcher imports = Pattern.compile("import [^;]*;").matcher(bare);
    while (imports.find()) {
      CHECK.due(imports.group() + " may be", imports.group().equals("import java.util.Arrays;"), true);
    }
    for (char c : source.toCharArray()) {
      if (c > 126 || c < 32 && c != '\n') {
        CHECK.due("the source has the sign " + (int) c, true, false);
      }
    }
    lengths(source);
  }

  private static void lengths(String source) {
    int begun = 0;
    int number = 0;
    for (String line : source.split("\n")) {
      number++;
      CHECK.due("line " + number + " is not too long", line.length() <= 120, true);
      boolean head = line.matches(" {4,8}[^ /*}].*\\(.*\\) \\{") && !line.matches(" *(if|for|while|switch)\\b.*");
      if (head) {
        begun = number;
      }
      if (begun > 0 && line.matches(" {4,8}\\}")) {
        CHECK.due("the method at line " + begun + " is short", number - begun < 60, true);
      }
    }
  }
}
