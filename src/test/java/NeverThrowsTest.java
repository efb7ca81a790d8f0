import java.lang.reflect.Method;
import java.util.ArrayList;
import java.util.List;
import java.util.Random;

/** Any arguments in any state: no call throws. */
public final class NeverThrowsTest {
  private static final int[] ODD = {Integer.MIN_VALUE, Integer.MIN_VALUE + 1, -1000000, -3, -2, -1, 0, 1, 2, 3, 4, 5, 6, 7, 8, 9,
    29, 30, 31, 32, 39, 40, 63, 64, 100, 1000, 1001, 1600, 3000, 65536, Integer.MAX_VALUE - 1, Integer.MAX_VALUE};
  private static final String[] TEXTS = {
    "",
    "word a 51 50 50; word b 50 51 50; word c 50 50 60; rule s = x x x; rule x = a or b or c;",
    "word a 50 50 50; rule s = s s or a; length 6;",
    "word a 0 99 50; word b 99 0 50; pair a b 99 1 2; pair b a 3 4 99; rule s = x or x s; rule x = a or b; length 5; turns 2 2 1;",
    "word a 1 1 1; rule s = a; length 1;",
    "word a 1 1 1; word b 1 1 1; word c 1 1 1; word d 1 1 1; word e 1 1 1; word f 1 1 1; word g 1 1 1; word h 1 1 1;"
      + "rule s = x or x s; rule x = a or b or c or d or e or f or g or h; length 6;",
    "rule s = s s; length 2;",
  };

  public static void main(String[] args) throws ReflectiveOperationException {
    Check check = new Check("NeverThrowsTest");
    List<Method> methods = new ArrayList<>();
    for (Method method : GuildCharter.class.getMethods()) {
      if (method.getDeclaringClass() == GuildCharter.class) {
        methods.add(method);
      }
    }
    methods.sort((one, other) -> one.getName().compareTo(other.getName()));
    check.due("methods of the face", methods.size(), 37);
    Random lot = new Random(7);
    for (int run = 0; run < 400; run++) {
      GuildCharter x = new GuildCharter();
      Check.port(x, TEXTS[run % TEXTS.length]);
      for (int call = 0; call < 400; call++) {
        Method method = methods.get(lot.nextInt(methods.size()));
        Object[] arguments = new Object[method.getParameterCount()];
        for (int i = 0; i < arguments.length; i++) {
          boolean flag = method.getParameterTypes()[i] == boolean.class;
          int number = lot.nextBoolean() ? lot.nextInt(6) : ODD[lot.nextInt(ODD.length)];
          arguments[i] = flag ? (Object) lot.nextBoolean() : (Object) number;
        }
        boolean thrown = false;
        try {
          if (!method.getName().equals("port") || lot.nextInt(10) == 0) {
            method.invoke(x, arguments);
          }
        } catch (java.lang.reflect.InvocationTargetException fault) {
          thrown = true;
          fault.getCause().printStackTrace(System.out);
        }
        check.due("run " + run + ", " + method.getName() + java.util.Arrays.toString(arguments) + " throws", thrown, false);
      }
    }
    check.finish();
  }
}
