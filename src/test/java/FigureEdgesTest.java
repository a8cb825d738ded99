import java.math.BigInteger;

/** The edges that the document names for promises 37 to 40: the print, shares, means and soundness. */
public final class FigureEdgesTest {
  private final Check check;

  private FigureEdgesTest(Check check) {
    this.check = check;
  }

  /** The print of these numbers without end, and then its last 64 bits. */
  private static BigInteger print(int[] numbers) {
    BigInteger print = BigInteger.valueOf(7);
    for (int number : numbers) {
      print = print.multiply(BigInteger.valueOf(31)).add(BigInteger.valueOf(number));
    }
    return print;
  }

  private void promise37FromNothingOn() {
    DuelSchema x = new DuelSchema();
    check.due("P37 without tables", 6727L, x::print);
    x.table(1);
    check.due("P37 without rows", 6727L, x::print);
    x.insert(0, 0, 5, 5);
    check.due("P37 a value of 0, and none of columns that are not there", 7L * 31 * 31 * 31, x::print);
    x.remove(0, 0);
    check.due("P37 none is left", 6727L, x::print);
    x.query();
    x.from(0, 0);
    x.frames(0);
    x.round(0);
    check.due("P37 a coin of each", 6727L + 31 + 1, x::print);
    x.appeal(0);
    check.due("P37 a coin of the other one", 6727L + 1, x::print);
    x.insert(0, 99, 0, 0);
    check.due("P37 a row behind the one that is gone", ((7L * 31 + 99) * 31) * 31 + 1, x::print);
  }

  private void promise37WrapsRound() {
    DuelSchema x = new DuelSchema();
    int[] numbers = new int[3 * 40 * 3 + 2];
    boolean below = false;
    boolean above = false;
    for (int table = 0; table < 3; table++) {
      x.table(3);
    }
    for (int row = 0; row < 120; row++) {
      int[] values = {row % 100, 99 - row % 100, row * 7 % 100};
      x.insert(row / 40, values[0], values[1], values[2]);
      System.arraycopy(values, 0, numbers, 3 * row, 3);
      int[] all = java.util.Arrays.copyOf(numbers, 3 * row + 5);
      all[3 * row + 3] = 0;
      all[3 * row + 4] = 0;
      long due = print(all).longValue();
      below = below || due < 0;
      above = above || due > 0;
      check.due("P37 with rows " + (row + 1), due, x::print);
    }
    boolean wrapped = below && above;
    check.due("P37 it went below none, and above it", true, () -> wrapped);
  }

  /** A page with two rows, for each of which so many pages are read. */
  private static DuelSchema nested(int pages) {
    DuelSchema x = new DuelSchema();
    x.table(1);
    x.table(1);
    x.insert(0, 1, 0, 0);
    x.insert(0, 1, 0, 0);
    for (int row = 0; row < 4 * pages; row++) {
      x.insert(1, 1, 0, 0);
    }
    x.query();
    x.from(0, 0);
    x.from(0, 1);
    return x;
  }

  private void promise38FromNoneToNearlyAll() {
    for (int duellist = 0; duellist < 2; duellist++) {
      int d = duellist;
      DuelSchema x = nested(0);
      check.due("P38 one read, one miss", 0.0f, () -> x.hitShare(d, 0));
      x.query();
      check.fails("P38 no position", Check.UNSUPPORTED, () -> x.hitShare(d, 1));
      x.from(1, 1);
      check.fails("P38 a table without rows", Check.ARITHMETIC, () -> x.hitShare(d, 1));
      x.from(1, 0);
      check.fails("P38 what is behind it is not read", Check.ARITHMETIC, () -> x.hitShare(d, 1));
      x.insert(1, 1, 0, 0);
      check.due("P38 both tables", 0.0f, () -> x.hitShare(d, 1));
      DuelSchema three = nested(3);
      check.due("P38 three of seven", 3.0f / 7.0f, () -> three.hitShare(d, 0));
      three.round(0);
      check.due("P38 with an empty cache all the same", 3.0f / 7.0f, () -> three.hitShare(d, 0));
      three.frames(3);
      check.due("P38 with as many frames as are needed", 3.0f / 7.0f, () -> three.hitShare(d, 0));
      three.frames(2);
      check.due("P38 with one frame less", 0.0f, () -> three.hitShare(d, 0));
      three.frames(0);
      check.due("P38 without frames", 0.0f, () -> three.hitShare(d, 0));
      DuelSchema full = new DuelSchema();
      full.table(1);
      for (int row = 0; row < 40; row++) {
        full.insert(0, 1, 0, 0);
      }
      full.query();
      for (int position = 0; position < 3; position++) {
        full.from(0, 0);
      }
      full.frames(12);
      check.due("P38 all but ten", 16400.0f / 16410.0f, () -> full.hitShare(d, 0));
    }
  }

  private void promise39FromOneRoundOn() {
    DuelSchema x = nested(3);
    check.fails("P39 no round", Check.ARITHMETIC, x::meanMisses);
    check.fails("P39 a refused round is none", Check.INDEX, () -> x.round(1));
    check.fails("P39 no round", Check.ARITHMETIC, x::meanMisses);
    x.frames(12);
    x.round(0);
    check.due("P39 four of one, none of the other", 2.0, x::meanMisses);
    x.round(0);
    check.due("P39 none in the second round", 1.0, x::meanMisses);
    x.round(0);
    check.due("P39 in three rounds", 4.0 / 6.0, x::meanMisses);
    check.due("P32 an appeal", -1, () -> x.appeal(1));
    check.due("P39 as they count then", 12.0 / 6.0, x::meanMisses);
    DuelSchema y = nested(0);
    y.remove(0, 0);
    y.query();
    y.from(1, 1);
    y.round(1);
    check.due("P39 a round without misses", 0.0, y::meanMisses);
    y.round(0);
    check.due("P39 one miss in two rounds", 0.25, y::meanMisses);
    for (int round = 2; round < 7; round++) {
      y.round(1);
    }
    check.due("P39 one miss in seven rounds", 1.0 / 14.0, y::meanMisses);
  }

  private void promise40EmptyAndFull() {
    DuelSchema x = new DuelSchema();
    check.due("P40 nothing", true, x::isSound);
    x.query();
    check.due("P40 a query without positions", true, x::isSound);
    x.table(3);
    x.from(0, 0);
    x.index(0, 0);
    check.due("P40 no rows", true, x::isSound);
    for (int frames : new int[] {0, 1, 12}) {
      x.frames(frames);
      x.round(0);
      check.due("P40 with frames " + frames, true, x::isSound);
    }
    for (int row = 0; row < 40; row++) {
      x.insert(0, row % 7, row % 5, row % 3);
    }
    x.from(0, 0);
    x.from(0, 0);
    x.index(0, 1);
    x.index(0, 1);
    x.count(0);
    check.due("P40 40 rows three times", true, x::isSound);
    x.join(0, 0, 0, 1, 1);
    x.join(0, 2, 1, 1, 0);
    x.where(0, 0, 0, '=', 3);
    x.where(0, 1, 1, '<', 4);
    x.where(0, 2, 1, '>', 0);
    for (int round = 0; round < 10; round++) {
      x.round(0);
      check.due("P40 with coins", true, x::isSound);
    }
    for (int duellist = 0; duellist < 2; duellist++) {
      for (int index = 0; index < 2; index++) {
        int d = duellist;
        int i = index;
        Check.answerOf(() -> x.ban(d, i));
        check.due("P40 with bans", true, x::isSound);
      }
    }
    x.round(0);
    x.remove(0, 0);
    x.remove(0, 39);
    check.due("P40 without the first and the last row", true, x::isSound);
    x.frames(1);
    check.due("P40 with fewer frames", true, x::isSound);
    for (int row = 1; row < 39; row++) {
      x.remove(0, row);
    }
    check.due("P40 none is left", true, x::isSound);
  }

  public static void main(String[] args) {
    Check check = new Check();
    FigureEdgesTest test = new FigureEdgesTest(check);
    test.promise37FromNothingOn();
    test.promise37WrapsRound();
    test.promise38FromNoneToNearlyAll();
    test.promise39FromOneRoundOn();
    test.promise40EmptyAndFull();
    check.end();
  }
}
