import java.lang.reflect.InvocationTargetException;
import java.lang.reflect.Method;
import java.lang.reflect.Modifier;
import java.util.Arrays;
import java.util.Comparator;

/** Runs tests of bounds: each case is a method of its own, named by its promise and by what it looks at. */
final class Bounds {
  private Bounds() {
  }

  interface Maker {
    KeelHouse make();
  }

  interface Call {
    Object of(KeelHouse yard);
  }

  interface CallWith {
    Object of(KeelHouse yard, int value);
  }

  /** Each static method without arguments whose name begins with "promise" or "section" is a case. */
  static void run(Class<?> cases) throws IllegalAccessException {
    Method[] methods = cases.getDeclaredMethods();
    Arrays.sort(methods, Comparator.comparing(Method::getName));
    for (Method method : methods) {
      String name = method.getName();
      boolean isCase = name.startsWith("promise") || name.startsWith("section");
      if (isCase && Modifier.isStatic(method.getModifiers()) && method.getParameterCount() == 0) {
        runCase(method, name);
      }
    }
    Check.end();
  }

  private static void runCase(Method method, String name) throws IllegalAccessException {
    Check.inCase(name);
    method.setAccessible(true);
    try {
      method.invoke(null);
    } catch (InvocationTargetException e) {
      Check.same("the case", "no exception", String.valueOf(e.getCause()));
    }
  }

  static void taken(KeelHouse yard, String call, Check.Call made) {
    Object got = Check.made(made);
    Check.same(call + " is taken, not " + got, false, got instanceof Class);
  }

  /** The least and the most are taken; what is less or more by one is refused, as is what lies far out. */
  static void within(String call, Maker maker, int least, int most, Class<? extends RuntimeException> due,
      CallWith with) {
    for (int value : new int[] {least, most}) {
      KeelHouse yard = maker.make();
      taken(yard, call + " of " + value, () -> with.of(yard, value));
    }
    KeelHouse yard = maker.make();
    for (int value : new int[] {least - 1, most + 1, Integer.MIN_VALUE, Integer.MAX_VALUE}) {
      Check.refused(yard, call + " of " + value, due, () -> with.of(yard, value));
    }
  }

  static void index(String call, Maker maker, int least, int most, CallWith with) {
    within(call, maker, least, most, IndexOutOfBoundsException.class, with);
  }

  static void argument(String call, Maker maker, int least, int most, CallWith with) {
    within(call, maker, least, most, IllegalArgumentException.class, with);
  }

  /** The call is taken with a ship at just these places, and refused for its state at all others. */
  static void onlyAt(String call, java.util.Set<Place> places, Call made) {
    for (Place place : Place.values()) {
      KeelHouse yard = place.yard();
      if (places.contains(place)) {
        taken(yard, call + " at " + place, () -> made.of(yard));
      } else {
        Check.badState(yard, call + " at " + place, () -> made.of(yard));
      }
    }
  }
}
