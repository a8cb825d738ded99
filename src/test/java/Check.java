/** Counts the calls whose answer is not the one that is due. */
final class Check {
  interface Call {
    Object run();
  }

  private int wrong = 0;
  private int checked = 0;

  void due(String call, Object want, Call made) {
    report(call, want.toString(), answerOf(made));
  }

  void fails(String call, Class<? extends RuntimeException> want, Call made) {
    report(call, thrown(want), answerOf(made));
  }

  void report(String call, String want, String got) {
    checked++;
    if (!got.equals(want)) {
      wrong++;
      System.out.println(call + " answered " + got + ", due is " + want);
    }
  }

  int wrongCount() {
    return wrong;
  }

  static String answerOf(Call made) {
    try {
      return made.run().toString();
    } catch (RuntimeException e) {
      return thrown(e.getClass());
    }
  }

  private static String thrown(Class<?> exception) {
    return "throws." + exception.getSimpleName();
  }

  void end() {
    System.out.println(checked + " checks, " + wrong + " wrong");
    if (wrong != 0) {
      System.exit(1);
    }
  }
}
