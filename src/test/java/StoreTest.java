/** Promises 1 to 16: a new object, tables, rows, indexes, counts and the cache. */
public final class StoreTest {
  private static final int[] WILD = {-1, 3, 6, 40, 100, Integer.MAX_VALUE, Integer.MIN_VALUE, 1431655765};

  private final Check check;

  private StoreTest(Check check) {
    this.check = check;
  }

  private static DuelSchema filled(int columns, int... ones) {
    DuelSchema x = new DuelSchema();
    x.table(columns);
    for (int one : ones) {
      x.insert(0, one, 0, 0);
    }
    return x;
  }

  private void newObject() {
    DuelSchema x = new DuelSchema();
    check.due("P1 rounds", 0, x::rounds);
    check.due("P1 cached", 0, x::cached);
    check.due("P1 flush", 0, x::flush);
    check.due("P1 coins 0", 0, () -> x.coins(0));
    check.due("P1 coins 1", 0, () -> x.coins(1));
    check.due("P1 total", 0, () -> x.total(1));
    check.due("P1 print", 7L * 31 * 31, x::print);
    check.due("P1 isSound", true, x::isSound);
    check.fails("P1 pages", Check.INDEX, () -> x.pages(0));
    check.fails("P1 entries", Check.INDEX, () -> x.entries(0));
    check.fails("P1 answers", Check.INDEX, () -> x.answers(0));
    check.fails("P1 meanMisses", ArithmeticException.class, x::meanMisses);
    check.due("P1 frames", 4, () -> x.frames(4));
    check.due("P1 another object is its own", 0, () -> {
      x.table(1);
      return new DuelSchema().table(1);
    });
  }

  private void table() {
    DuelSchema x = new DuelSchema();
    check.fails("P2 table(0)", Check.ARGUMENT, () -> x.table(0));
    check.fails("P2 table(4)", Check.ARGUMENT, () -> x.table(4));
    check.fails("P2 table(-1)", Check.ARGUMENT, () -> x.table(-1));
    check.due("P2 table(1)", 0, () -> x.table(1));
    check.due("P2 table(3)", 1, () -> x.table(3));
    check.due("P2 table(2)", 2, () -> x.table(2));
    check.fails("P2 a fourth", Check.STATE, () -> x.table(1));
    check.fails("P2 a wrong fourth", Check.ARGUMENT, () -> x.table(0));
    check.fails("P2 columns of 0", Check.ARGUMENT, () -> x.counted(0, 1, 'r'));
    check.due("P2 columns of 1", 0, () -> x.counted(1, 2, 'r'));
    check.fails("P2 columns of 2", Check.ARGUMENT, () -> x.counted(2, 2, 'r'));
  }

  private void bound() {
    DuelSchema x = filled(2, 3, 5, 7, 9);
    x.remove(0, 3);
    check.fails("P3 no table", Check.INDEX, () -> x.bound(1, 0, 0, 99));
    check.fails("P3 no table, nor bounds", Check.INDEX, () -> x.bound(-1, 9, 9, 0));
    check.fails("P3 no column", Check.ARGUMENT, () -> x.bound(0, 2, 0, 99));
    check.fails("P3 column -1", Check.ARGUMENT, () -> x.bound(0, -1, 0, 99));
    check.fails("P3 low -1", Check.ARGUMENT, () -> x.bound(0, 0, -1, 99));
    check.fails("P3 high 100", Check.ARGUMENT, () -> x.bound(0, 0, 0, 100));
    check.fails("P3 wrong way round", Check.ARGUMENT, () -> x.bound(0, 0, 6, 5));
    check.due("P3 all within", 0, () -> x.bound(0, 0, 3, 7));
    check.due("P3 one below, one above, a removed one not", 2, () -> x.bound(0, 0, 5, 5));
    check.due("P3 the other column", 3, () -> x.bound(0, 1, 1, 99));
    check.due("P3 rows stay", 3, () -> x.value(0, 0, 0));
    check.fails("P3 a row below", Check.ARGUMENT, () -> x.insert(0, 4, 1, 0));
    check.fails("P3 a row above", Check.ARGUMENT, () -> x.insert(0, 6, 1, 0));
    check.fails("P3 a row below in the other column", Check.ARGUMENT, () -> x.insert(0, 5, 0, 0));
    check.due("P3 a row within", 4, () -> x.insert(0, 5, 99, 0));
    check.fails("P3 a wrong bound changes nothing", Check.ARGUMENT, () -> x.bound(0, 0, 9, 8));
    check.fails("P3 so the bounds still hold", Check.ARGUMENT, () -> x.insert(0, 8, 1, 0));
  }

  private void insert() {
    DuelSchema x = new DuelSchema();
    x.table(2);
    x.table(3);
    check.fails("P4 no table", Check.INDEX, () -> x.insert(2, 0, 0, 0));
    check.fails("P4 no table, nor value", Check.INDEX, () -> x.insert(-1, 100, 0, 0));
    check.fails("P4 value 100", Check.ARGUMENT, () -> x.insert(0, 100, 0, 0));
    check.fails("P4 value -1", Check.ARGUMENT, () -> x.insert(0, 0, -1, 0));
    check.fails("P4 third value", Check.ARGUMENT, () -> x.insert(1, 0, 0, 100));
    check.due("P4 a value without its column", 0, () -> x.insert(0, 0, 99, 1000));
    check.due("P4 the next one", 1, () -> x.insert(0, 99, 0, -7));
    check.due("P4 in the other table", 0, () -> x.insert(1, 1, 2, 3));
    check.due("P4 first value", 1, () -> x.value(1, 0, 0));
    check.due("P4 second value", 2, () -> x.value(1, 0, 1));
    check.due("P4 third value", 3, () -> x.value(1, 0, 2));
    for (int row = 2; row < 40; row++) {
      int due = row;
      check.due("P4 row " + row, due, () -> x.insert(0, 50, 50, 50));
    }
    check.fails("P4 a 41st", Check.STATE, () -> x.insert(0, 50, 50, 50));
    check.fails("P4 a wrong 41st", Check.ARGUMENT, () -> x.insert(0, 50, 100, 50));
    x.remove(0, 39);
    check.fails("P4 a removed one leaves its place", Check.STATE, () -> x.insert(0, 50, 50, 50));
    check.due("P4 the other table has room", 1, () -> x.insert(1, 0, 0, 0));
  }

  private void remove() {
    DuelSchema x = filled(1, 4, 4, 4, 4, 4);
    check.fails("P5 no table", Check.INDEX, () -> x.remove(1, 0));
    check.fails("P5 no row", Check.NONE, () -> x.remove(0, 5));
    for (int row : WILD) {
      if (row != 3) {
        check.fails("P5 row " + row, Check.NONE, () -> x.remove(0, row));
      }
    }
    check.due("P5 remove", 4, () -> x.remove(0, 2));
    check.fails("P5 once more", Check.NONE, () -> x.remove(0, 2));
    check.due("P5 the last one", 3, () -> x.remove(0, 4));
    check.due("P5 its place is left", 5, () -> x.insert(0, 4, 0, 0));
    check.fails("P5 the removed one has no value", Check.NONE, () -> x.value(0, 4, 0));
  }

  private void count() {
    DuelSchema x = filled(2, 8, 3, 8, 5, 60);
    x.remove(0, 4);
    check.fails("P6 no table", Check.INDEX, () -> x.count(1));
    check.due("P6 count", 4, () -> x.count(0));
    check.due("P6 pages are counted with the removed row", 2, () -> x.counted(0, 0, 'p'));
    x.insert(0, 1, 1, 1);
    check.due("P6 old count", 4, () -> x.counted(0, 0, 'r'));
    check.due("P6 new count", 5, () -> x.count(0));
    check.due("P6 taken anew", 1, () -> x.counted(0, 0, 'l'));
    DuelSchema empty = filled(1);
    check.due("P6 no rows", 0, () -> empty.count(0));
  }

  private void index() {
    DuelSchema x = filled(2, 6, 2, 6);
    check.fails("P7 no table", Check.INDEX, () -> x.index(1, 0));
    check.fails("P7 no column", Check.ARGUMENT, () -> x.index(0, 2));
    check.fails("P7 column -1", Check.ARGUMENT, () -> x.index(0, -1));
    for (int number = 0; number < 6; number++) {
      int due = number;
      check.due("P7 index " + number, due, () -> x.index(0, due % 2));
    }
    check.fails("P7 a seventh", Check.STATE, () -> x.index(0, 0));
    check.fails("P7 a wrong seventh", Check.ARGUMENT, () -> x.index(0, 2));
    check.due("P7 it holds the rows that were there", 1, () -> x.entryAt(4, 0));
  }

  private void frames() {
    DuelSchema x = filled(1, 0, 0, 0, 0, 0, 0, 0, 0, 0);
    x.query();
    x.from(0, 0);
    check.fails("P8 -1", Check.ARGUMENT, () -> x.frames(-1));
    check.fails("P8 13", Check.ARGUMENT, () -> x.frames(13));
    x.round(0);
    check.cacheIs("P8 three pages", x, 2, 1, 0);
    check.due("P8 fewer", 4, () -> x.frames(2));
    check.cacheIs("P8 the least lately read one leaves", x, 2, 1);
    check.due("P8 more", 2, () -> x.frames(12));
    check.cacheIs("P8 more frames stay empty", x, 2, 1);
    check.due("P8 none", 12, () -> x.frames(0));
    check.cacheIs("P8 none", x);
    check.due("P8 without frames all are misses", -1, () -> x.round(0));
    check.due("P8 three", 3, () -> x.misses(0, 1));
    check.due("P8 three", 3, () -> x.misses(1, 1));
    check.cacheIs("P8 nothing is put in", x);
    check.due("P8 two", 0, () -> x.frames(2));
    x.round(0);
    check.due("P8 two frames, three pages: all misses", 3, () -> x.misses(1, 2));
    check.cacheIs("P8 the last two", x, 2, 1);
  }

  private void pagesAndValue() {
    DuelSchema x = filled(2);
    check.due("P9 none", 0, () -> x.pages(0));
    for (int row = 0; row < 40; row++) {
      int due = row / 4 + 1;
      x.insert(0, row, 99 - row, 0);
      check.due("P9 pages with row " + row, due, () -> x.pages(0));
    }
    for (int row = 20; row < 40; row++) {
      x.remove(0, row);
    }
    check.due("P9 pages stay", 10, () -> x.pages(0));
    check.fails("P9 no table", Check.INDEX, () -> x.pages(1));
    check.due("P10 value", 19, () -> x.value(0, 19, 0));
    check.due("P10 value of column 1", 80, () -> x.value(0, 19, 1));
    check.fails("P10 no table", Check.INDEX, () -> x.value(-1, 77, 77));
    check.fails("P10 no column, nor row", Check.ARGUMENT, () -> x.value(0, 77, 2));
    check.fails("P10 column -1", Check.ARGUMENT, () -> x.value(0, 0, -1));
    check.fails("P10 removed", Check.NONE, () -> x.value(0, 20, 0));
    for (int row : WILD) {
      if (row != 3 && row != 6) {
        check.fails("P10 row " + row, Check.NONE, () -> x.value(0, row, 0));
      }
      check.fails("P10 table " + row, Check.INDEX, () -> x.value(row, 0, 0));
    }
  }

  private void entries() {
    DuelSchema x = filled(2, 7, 3, 7, 1, 3);
    x.index(0, 0);
    check.fails("P11 no index", Check.INDEX, () -> x.entries(1));
    check.fails("P11 index -1", Check.INDEX, () -> x.entries(-1));
    check.due("P11 entries", 5, () -> x.entries(0));
    entriesAre(x, 3, 1, 4, 0, 2);
    x.insert(0, 3, 0, 0);
    x.insert(0, 0, 0, 0);
    x.insert(0, 99, 0, 0);
    entriesAre(x, 6, 3, 1, 4, 5, 0, 2, 7);
    x.remove(0, 4);
    x.remove(0, 6);
    x.remove(0, 7);
    entriesAre(x, 3, 1, 5, 0, 2);
    check.due("P11 fewer", 5, () -> x.entries(0));
    check.fails("P12 no index", Check.INDEX, () -> x.entryAt(1, 0));
    for (int wild : WILD) {
      if (wild != 3) {
        check.fails("P12 place " + wild, Check.NONE, () -> x.entryAt(0, wild));
      }
      check.fails("P12 index " + wild, Check.INDEX, () -> x.entryAt(wild, 0));
    }
  }

  private void entriesAre(DuelSchema x, int... rows) {
    for (int place = 0; place < rows.length; place++) {
      int at = place;
      check.due("P12 entry " + place, rows[place], () -> x.entryAt(0, at));
    }
    check.fails("P12 no such place", Check.NONE, () -> x.entryAt(0, rows.length));
    check.fails("P12 place -1", Check.NONE, () -> x.entryAt(0, -1));
  }

  private void counted() {
    DuelSchema x = new DuelSchema();
    x.table(2);
    int[][] rows = {{8, 1}, {3, 1}, {8, 1}, {5, 1}, {60, 1}};
    for (int[] row : rows) {
      x.insert(0, row[0], row[1], 0);
    }
    x.remove(0, 4);
    countsAre(x, 0, 0, 0, 0, 0, 0);
    x.count(0);
    countsAre(x, 0, 4, 2, 3, 3, 8);
    countsAre(x, 1, 4, 2, 1, 1, 1);
    check.fails("P13 no table", Check.INDEX, () -> x.counted(1, 9, 'x'));
    check.fails("P13 no column", Check.ARGUMENT, () -> x.counted(0, 2, 'r'));
    check.fails("P13 column -1", Check.ARGUMENT, () -> x.counted(0, -1, 'r'));
    check.fails("P13 no such count", Check.ARGUMENT, () -> x.counted(0, 0, 'x'));
    check.fails("P13 R", Check.ARGUMENT, () -> x.counted(0, 0, 'R'));
    check.fails("P13 char 0", Check.ARGUMENT, () -> x.counted(0, 0, (char) 0));
    for (int row = 0; row < 4; row++) {
      x.remove(0, row);
    }
    x.count(0);
    countsAre(x, 0, 0, 2, 0, 0, 0);
  }

  private void countsAre(DuelSchema x, int column, int rows, int pages, int unlike, int least, int greatest) {
    check.due("P13 r", rows, () -> x.counted(0, column, 'r'));
    check.due("P13 p", pages, () -> x.counted(0, column, 'p'));
    check.due("P13 u", unlike, () -> x.counted(0, column, 'u'));
    check.due("P13 l", least, () -> x.counted(0, column, 'l'));
    check.due("P13 g", greatest, () -> x.counted(0, column, 'g'));
  }

  /** Two tables with three indexes, and a cache that holds pages of both and all three leaves. */
  private static DuelSchema warm() {
    DuelSchema x = new DuelSchema();
    x.table(2);
    x.table(1);
    for (int row = 0; row < 5; row++) {
      x.insert(0, row, row, 0);
      x.insert(1, row, 0, 0);
    }
    x.index(0, 0);
    x.index(0, 1);
    x.index(1, 0);
    x.frames(12);
    for (int query = 0; query < 4; query++) {
      x.query();
      x.from(query, query == 3 ? 1 : 0);
    }
    x.where(1, 0, 0, '=', 1);
    x.where(2, 0, 1, '=', 2);
    x.where(3, 0, 0, '=', 3);
    for (int query = 0; query < 4; query++) {
      x.round(query);
    }
    return x;
  }

  private void cache() {
    DuelSchema x = warm();
    check.cacheIs("P14/15 warm", x, 100, 500, 101, 1, 0, 400, 300);
    x.insert(0, 9, 9, 9);
    check.cacheIs("P4 the page of the row and the leaves of the table leave", x, 100, 500, 101, 0);
    x.remove(1, 4);
    check.cacheIs("P5 the page of the row and the leaves of the table leave", x, 100, 0);
    check.due("P16 flush", 2, x::flush);
    check.cacheIs("P16 flushed", x);
    check.due("P16 flush again", 0, x::flush);
    DuelSchema y = warm();
    check.fails("P4 a row that does not come", Check.ARGUMENT, () -> y.insert(0, 100, 0, 0));
    check.fails("P5 a row that is not there", Check.NONE, () -> y.remove(0, 5));
    y.count(0);
    y.index(0, 0);
    y.bound(0, 0, 50, 60);
    check.cacheIs("P14/15 nothing leaves", y, 100, 500, 101, 1, 0, 400, 300);
    y.cold(0, 1);
    y.reads(1, 1);
    y.answers(1);
    y.hitShare(0, 1);
    y.isSound();
    check.cacheIs("P28 what is asked leaves the cache as it is", y, 100, 500, 101, 1, 0, 400, 300);
  }

  public static void main(String[] args) {
    Check check = new Check();
    StoreTest test = new StoreTest(check);
    test.newObject();
    test.table();
    test.bound();
    test.insert();
    test.remove();
    test.count();
    test.index();
    test.frames();
    test.pagesAndValue();
    test.entries();
    test.counted();
    test.cache();
    check.end();
  }
}
