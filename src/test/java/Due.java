import java.util.Objects;

/** Compares answers with those that are due, and tells at the end whether all were. */
final class Due {
  interface Call {
    Object answer();
  }

  private static int checked = 0;
  private static int wrong = 0;

  private Due() {}

  static void is(String call, Object want, Call made) {
    Object got = answerOf(made);
    checked++;
    if (!Objects.equals(want, got)) {
      wrong++;
      System.out.println(call + " answered " + got + ", due is " + want);
    }
  }

  static void refusal(String call, Class<? extends RuntimeException> want, Call made) {
    is(call, "throws " + want.getSimpleName(), made);
  }

  /** The exact class is named, so that a subclass that the machine throws is no match. */
  static Object answerOf(Call call) {
    try {
      return call.answer();
    } catch (RuntimeException e) {
      return "throws " + e.getClass().getSimpleName();
    }
  }

  static boolean allRight() {
    return wrong == 0;
  }

  static void end(String name) {
    System.out.println(name + ": " + checked + " answers checked, " + wrong + " wrong");
    if (wrong != 0) {
      System.exit(1);
    }
  }
}
