/** Compares answers with what is due, prints those that differ, and ends the program with 1 if there was one. */
final class Check {
  private static int wrong;

  private Check() {
  }

  interface Call {
    Object make();
  }

  static void same(String call, Object due, Object got) {
    if (!due.equals(got)) {
      wrong++;
      System.out.println(call + " answered " + got + ", due is " + due);
    }
  }

  static void near(String call, double due, double got) {
    double apart = Math.abs(due - got);
    if (!(apart <= 1e-9 * Math.max(1.0, Math.abs(due)))) {
      wrong++;
      System.out.println(call + " answered " + got + ", due is about " + due);
    }
  }

  /** The call throws just that, and changes nothing of the yard. */
  static void refused(KeelHouse yard, String call, Class<? extends RuntimeException> due, Call made) {
    long before = yard.digest();
    Object got;
    try {
      got = made.make();
    } catch (RuntimeException e) {
      got = e.getClass();
    }
    same(call, due, got);
    same("digest behind " + call, before, yard.digest());
  }

  static void noIndex(KeelHouse yard, String call, Call made) {
    refused(yard, call, IndexOutOfBoundsException.class, made);
  }

  static void badArgument(KeelHouse yard, String call, Call made) {
    refused(yard, call, IllegalArgumentException.class, made);
  }

  static void badState(KeelHouse yard, String call, Call made) {
    refused(yard, call, IllegalStateException.class, made);
  }

  static void end() {
    if (wrong > 0) {
      System.out.println(wrong + " answers are not as due");
      System.exit(1);
    }
  }
}
