/** Promises 37 to 40: the print, the shares and means, and the soundness of the store. */
public final class FiguresTest {
  private final Check check;

  private FiguresTest(Check check) {
    this.check = check;
  }

  private static long print(long... numbers) {
    long print = 7;
    for (long number : numbers) {
      print = 31 * print + number;
    }
    return print;
  }

  private void prints() {
    DuelSchema x = new DuelSchema();
    check.due("P37 new", print(0, 0), x::print);
    x.table(2);
    x.table(1);
    check.due("P37 without rows", print(0, 0), x::print);
    x.insert(1, 9, 77, 77);
    x.insert(0, 1, 2, 77);
    x.insert(0, 3, 4, 77);
    x.insert(0, 5, 6, 77);
    check.due("P37 tables, rows, columns", print(1, 2, 3, 4, 5, 6, 9, 0, 0), x::print);
    x.remove(0, 1);
    check.due("P37 rows that are there", print(1, 2, 5, 6, 9, 0, 0), x::print);
    x.index(0, 0);
    x.query();
    x.from(0, 0);
    x.where(0, 0, 0, '=', 0);
    x.round(0);
    check.due("P37 coins of both, alike", print(1, 2, 5, 6, 9, 1, 1), x::print);
    x.round(0);
    x.frames(0);
    x.where(0, 0, 0, '=', 1);
    x.where(0, 0, 0, '=', 1);
    x.insert(0, 0, 0, 0);
    x.frames(4);
    x.round(0);
    check.due("P37 the duellist 0 ahead of the other one", print(1, 2, 5, 6, 0, 0, 9, 2, 5), x::print);
    for (int row = 4; row < 40; row++) {
      x.insert(0, row, 99, 0);
    }
    long want = print(1, 2, 5, 6, 0, 0);
    for (int row = 4; row < 40; row++) {
      want = 31 * (31 * want + row) + 99;
    }
    want = 31 * (31 * (31 * want + 9) + 2) + 5;
    check.due("P37 wraps round", want, x::print);
  }

  private void shares() {
    DuelSchema x = new DuelSchema();
    x.table(1);
    x.table(1);
    x.query();
    check.fails("P38 no duellist", Check.ARGUMENT, () -> x.hitShare(2, 9));
    check.fails("P38 duellist -1", Check.ARGUMENT, () -> x.hitShare(-1, 0));
    check.fails("P38 no query", Check.INDEX, () -> x.hitShare(0, 1));
    check.fails("P38 query -1", Check.INDEX, () -> x.hitShare(1, -1));
    check.fails("P38 no position", Check.UNSUPPORTED, () -> x.hitShare(0, 0));
    x.from(0, 0);
    check.fails("P38 nothing to read", Check.ARITHMETIC, () -> x.hitShare(0, 0));
    x.from(0, 1);
    x.insert(0, 1, 0, 0);
    x.insert(0, 2, 0, 0);
    check.due("P38 all are misses", 0.0f, () -> x.hitShare(0, 0));
    x.insert(1, 1, 0, 0);
    // A page, and twice the one page of the other table.
    check.due("P38 one of three", 1.0f / 3.0f, () -> x.hitShare(0, 0));
    x.round(0);
    check.due("P38 the cache does not matter", 1.0f / 3.0f, () -> x.hitShare(1, 0));
    x.frames(0);
    check.due("P38 without frames", 0.0f, () -> x.hitShare(0, 0));
    x.frames(1);
    check.due("P38 the same page twice at once", 1.0f / 3.0f, () -> x.hitShare(0, 0));
    x.count(0);
    x.count(1);
    // By counts the smaller table is first: 1 + 1 reads.
    check.due("P38 of the own plan", 0.0f, () -> x.hitShare(1, 0));
  }

  private void means() {
    DuelSchema x = new DuelSchema();
    x.table(1);
    x.query();
    x.from(0, 0);
    check.fails("P39 no round", Check.ARITHMETIC, x::meanMisses);
    x.round(0);
    check.due("P39 no misses", 0.0, x::meanMisses);
    x.insert(0, 0, 0, 0);
    x.round(0);
    check.due("P39 one miss of both in two rounds", 0.25, x::meanMisses);
    x.round(0);
    check.due("P39 in three rounds", 1.0 / 6.0, x::meanMisses);
    x.appeal(0);
    check.due("P39 as they count", 0.5, x::meanMisses);
  }

  private void soundness() {
    DuelSchema x = new DuelSchema();
    check.due("P40 new", true, x::isSound);
    x.table(2);
    x.table(2);
    for (int row = 0; row < 12; row++) {
      x.insert(0, row % 3, row % 4, 0);
      x.insert(1, row % 2, row % 5, 0);
    }
    x.index(0, 0);
    x.index(1, 1);
    x.index(0, 1);
    for (int query = 0; query < 8; query++) {
      x.query();
      for (int position = 0; position < query % 4; position++) {
        x.from(query, (query + position) % 2);
      }
      if (query % 4 > 1) {
        x.join(query, 0, 0, 1, 1);
        x.where(query, 1, 1, '>', 1);
      }
    }
    check.due("P40 uncounted", true, x::isSound);
    x.count(0);
    x.count(1);
    check.due("P40 counted", true, x::isSound);
    for (int round = 0; round < 8; round++) {
      if (round % 4 != 0) {
        x.round(round);
      }
      x.remove(0, round);
      check.due("P40 behind a round", true, x::isSound);
    }
  }

  public static void main(String[] args) {
    Check check = new Check();
    FiguresTest test = new FiguresTest(check);
    test.prints();
    test.shares();
    test.means();
    test.soundness();
    check.end();
  }
}
