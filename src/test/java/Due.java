import java.util.Objects;

/** Compares answers with those that are due, and tells at the end whether all were. */
final class Due {
  interface Call {
    Object answer();
  }

  private static int checked = 0;
  private static int wrong = 0;
  private static int sentences = 0;
  private static int checkedBefore = 0;
  private static String sentence = "";

  private Due() {}

  /** What is compared from here on belongs to this sentence of the document. */
  static void sentence(String text) {
    endSentence();
    sentence = text;
    checkedBefore = checked;
    sentences++;
  }

  /** A sentence for which nothing was compared would look kept without being tested. */
  private static void endSentence() {
    if (sentences > 0 && checked == checkedBefore) {
      wrong++;
      System.out.println("[" + sentence + "] has no answer that was checked");
    }
  }

  static void is(String call, Object want, Call made) {
    Object got = answerOf(made);
    checked++;
    if (!Objects.equals(want, got)) {
      wrong++;
      String where = sentence.isEmpty() ? "" : "[" + sentence + "] ";
      System.out.println(where + call + " answered " + got + ", due is " + want);
    }
  }

  static void refusal(String call, Class<? extends RuntimeException> want, Call made) {
    is(call, "throws " + want.getSimpleName(), made);
  }

  /** The exact class is named, so that a subclass that the machine throws is no match. */
  static Object answerOf(Call call) {
    try {
      return call.answer();
    } catch (RuntimeException e) {
      return "throws " + e.getClass().getSimpleName();
    }
  }

  static boolean allRight() {
    return wrong == 0;
  }

  static void end(String name) {
    endSentence();
    String of = sentences == 0 ? "" : " of " + sentences + " sentences";
    System.out.println(name + ": " + checked + " answers" + of + " checked, " + wrong + " wrong");
    if (wrong != 0) {
      System.exit(1);
    }
  }
}
