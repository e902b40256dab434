import java.util.List;

/** Compares answers with what is due, prints those that differ, and ends the program with 1 if there was one. */
final class Check {
  private static int wrong;
  private static String told = "";

  private Check() {
  }

  interface Call {
    Object make();
  }

  /** What is printed from now on is told of this case. */
  static void inCase(String name) {
    told = name + ": ";
  }

  private static void tellWrong(String line) {
    wrong++;
    System.out.println(told + line);
  }

  static void same(String call, Object due, Object got) {
    if (!due.equals(got)) {
      tellWrong(call + " answered " + got + ", due is " + due);
    }
  }

  static void near(String call, double due, double got) {
    double apart = Math.abs(due - got);
    if (!(apart <= 1e-9 * Math.max(1.0, Math.abs(due)))) {
      tellWrong(call + " answered " + got + ", due is about " + due);
    }
  }

  /** It lies within these, both included. */
  static void within(String call, double least, double most, double got) {
    if (!(got >= least && got <= most)) {
      tellWrong(call + " answered " + got + ", due is " + least + " to " + most);
    }
  }

  static Object made(Call call) {
    try {
      return call.make();
    } catch (RuntimeException e) {
      return e.getClass();
    }
  }

  /** The call throws just that, and changes nothing of the yard. */
  static void refused(KeelHouse yard, String call, Class<? extends RuntimeException> due, Call made) {
    List<Answers.Answer> before = Answers.of(yard);
    same(call, due, made(made));
    same("behind " + call + " the yard", "alike", Answers.apart(before, Answers.of(yard)));
  }

  /** The call answers that, and changes nothing of the yard. */
  static void inVain(KeelHouse yard, String call, Object due, Call made) {
    List<Answers.Answer> before = Answers.of(yard);
    same(call, due, made(made));
    same("behind " + call + " the yard", "alike", Answers.apart(before, Answers.of(yard)));
  }

  static void noIndex(KeelHouse yard, String call, Call made) {
    refused(yard, call, IndexOutOfBoundsException.class, made);
  }

  static void badArgument(KeelHouse yard, String call, Call made) {
    refused(yard, call, IllegalArgumentException.class, made);
  }

  static void badState(KeelHouse yard, String call, Call made) {
    refused(yard, call, IllegalStateException.class, made);
  }

  static void end() {
    if (wrong > 0) {
      System.out.println(wrong + " answers are not as due");
      System.exit(1);
    }
  }
}
