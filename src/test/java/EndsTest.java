import java.lang.reflect.InvocationTargetException;
import java.lang.reflect.Method;
import java.util.Arrays;
import java.util.Comparator;
import java.util.Random;

/** No call ever throws: every method, with ends of the numbers and with numbers near what is there, in any state. */
public final class EndsTest {
  private static final String[] BOOKS = {
    "",
    "ink i eyes 3;leaf abcabc ink i;leaf z ink i;reader r pace 2 skips 2 pay 1;word a;word bc;word c;word b;guard 4 1;",
    "ink i eyes 1;" + "leaf aaaaaaaaaaaaaaaaaaaaaaaaaaaaaaaaaaaaaaaaaaaaaaaaaaaaaaaaaaaaaaaa ink i;".repeat(8)
        + "word a;word aa;eyes 9999*9999*9999/place when (place-9)*9999*9999<letter;",
    "reader a pace 64 skips 9 pay 99;reader b pace 1 skips 0 pay 0;reader c pace 3 skips 3 pay 1;reader d pace 9 skips 2 pay 2;"
        + "ink i eyes 20;leaf abcdefghijklmnopqrstuvwxyz ink i;",
  };
  private static Random random;

  public static void main(String[] args) throws IllegalAccessException {
    Method[] methods = WetInk.class.getDeclaredMethods();
    methods = Arrays.stream(methods).filter(m -> java.lang.reflect.Modifier.isPublic(m.getModifiers())).toArray(Method[]::new);
    Arrays.sort(methods, Comparator.comparing(Method::getName));
    Check.due("methods of the face", methods.length, 33);
    for (int seed = 0; seed < 400; seed++) {
      random = new Random(seed);
      WetInk x = new WetInk();
      for (int call = 0; call < 512; call++) {
        if (random.nextInt(100) == 0) {
          Check.tell(x, BOOKS[random.nextInt(BOOKS.length)]);
        }
        call(x, methods[random.nextInt(methods.length)]);
      }
    }
    Check.finish("EndsTest");
  }

  private static void call(WetInk x, Method method) throws IllegalAccessException {
    Class<?>[] types = method.getParameterTypes();
    Object[] values = new Object[types.length];
    for (int i = 0; i < types.length; i++) {
      values[i] = types[i] == boolean.class ? (Object) random.nextBoolean()
          : types[i] == long.class ? (Object) (random.nextBoolean() ? random.nextLong() : (long) number())
          : (Object) number();
    }
    String name = method.getName() + Arrays.toString(values);
    try {
      method.invoke(x, values);
      Check.due(name, 0, 0);
    } catch (InvocationTargetException e) {
      Check.due(name + " threw " + e.getCause(), 1, 0);
    }
  }

  private static int number() {
    switch (random.nextInt(12)) {
      case 0: return Integer.MIN_VALUE;
      case 1: return Integer.MAX_VALUE;
      case 2: return random.nextInt();
      case 3: return -1 - random.nextInt(3);
      case 4: return random.nextInt(1700);
      case 5: return random.nextInt(100);
      default: return random.nextInt(8);
    }
  }
}
