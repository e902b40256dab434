import java.lang.reflect.InvocationTargetException;
import java.lang.reflect.Method;
import java.lang.reflect.Modifier;
import java.util.Arrays;
import java.util.Comparator;
import java.util.List;
import java.util.Random;

/** Calls with numbers from far out, at each place: nothing but what the document names is thrown, or told. */
public final class WildCallsTest {
  private static final List<Class<?>> NAMED =
      List.of(IndexOutOfBoundsException.class, IllegalArgumentException.class, IllegalStateException.class);
  private static final int[] FAR = {
    Integer.MIN_VALUE, Integer.MIN_VALUE + 1, -100, -2, -1, 0, 1, 2, 3, 6, 8, 20, 40, 63, 64, 80, 100, 134, 255, 400,
    2000, 30000, 888888, 1 << 30, Integer.MAX_VALUE - 1, Integer.MAX_VALUE};

  public static void main(String[] args) throws IllegalAccessException {
    Method[] calls = Arrays.stream(KeelHouse.class.getDeclaredMethods())
        .filter(method -> Modifier.isPublic(method.getModifiers()))
        .sorted(Comparator.comparing(Method::getName)).toArray(Method[]::new);
    for (int seed = 0; seed < 330; seed++) {
      Random random = new Random(seed);
      Place place = Place.values()[seed % Place.values().length];
      KeelHouse yard = place.yard();
      Check.inCase("seed " + seed);
      for (int i = 0; i < 400; i++) {
        call(yard, calls[random.nextInt(calls.length)], random);
      }
      Check.same("isSound()", true, yard.isSound());
    }
    Check.end();
  }

  private static void call(KeelHouse yard, Method call, Random random) throws IllegalAccessException {
    Class<?>[] types = call.getParameterTypes();
    Object[] values = new Object[types.length];
    for (int k = 0; k < types.length; k++) {
      values[k] = types[k] == boolean.class ? (Object) random.nextBoolean() : (Object) number(k, random);
    }
    String name = call.getName() + Arrays.toString(values);
    try {
      Object told = call.invoke(yard, values);
      boolean isOdd = told instanceof Double && !(Math.abs((Double) told) < 1e300) || "-0.0".equals(String.valueOf(told));
      Check.same(name + " told " + told + ", is that odd?", false, isOdd);
    } catch (InvocationTargetException e) {
      Class<?> thrown = e.getCause().getClass();
      boolean isNamed = NAMED.contains(thrown) && Arrays.asList(call.getExceptionTypes()).contains(thrown);
      Check.same(name + " threw " + thrown + ", is that named?", true, isNamed);
    }
  }

  private static int number(int at, Random random) {
    if (random.nextInt(4) == 0) {
      return FAR[random.nextInt(FAR.length)];
    }
    return at == 0 ? random.nextInt(3) : random.nextInt(random.nextInt(3) == 0 ? 100 : 8);
  }
}
