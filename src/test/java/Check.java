import java.util.NoSuchElementException;

/** Counts the calls whose answer is not the one that is due. */
final class Check {
  static final Class<IllegalArgumentException> ARGUMENT = IllegalArgumentException.class;
  static final Class<IllegalStateException> STATE = IllegalStateException.class;
  static final Class<IndexOutOfBoundsException> INDEX = IndexOutOfBoundsException.class;
  static final Class<NoSuchElementException> NONE = NoSuchElementException.class;
  static final Class<UnsupportedOperationException> UNSUPPORTED = UnsupportedOperationException.class;
  static final Class<ArithmeticException> ARITHMETIC = ArithmeticException.class;

  interface Call {
    Object run();
  }

  private int wrong = 0;
  private int checked = 0;

  void due(String call, Object want, Call made) {
    report(call, want.toString(), answerOf(made));
  }

  void fails(String call, Class<? extends RuntimeException> want, Call made) {
    report(call, thrown(want), answerOf(made));
  }

  /** What is in the cache, the latest one first, and nothing ahead of it or behind. */
  void cacheIs(String what, DuelSchema x, int... keys) {
    due(what + ", P14 cached", keys.length, x::cached);
    for (int place = 0; place < keys.length; place++) {
      int at = place;
      due(what + ", P15 place " + place, keys[place], () -> x.cachedAt(at));
    }
    fails(what + ", P15 behind the last one", NONE, () -> x.cachedAt(keys.length));
    fails(what + ", P15 ahead of the first one", NONE, () -> x.cachedAt(-1));
  }

  void report(String call, String want, String got) {
    checked++;
    if (!got.equals(want)) {
      wrong++;
      System.out.println(call + " answered " + got + ", due is " + want);
    }
  }

  int wrongCount() {
    return wrong;
  }

  static String answerOf(Call made) {
    try {
      return made.run().toString();
    } catch (RuntimeException e) {
      return thrown(e.getClass());
    }
  }

  private static String thrown(Class<?> exception) {
    return "throws." + exception.getSimpleName();
  }

  void end() {
    System.out.println(checked + " checks, " + wrong + " wrong");
    if (wrong != 0) {
      System.exit(1);
    }
  }
}
