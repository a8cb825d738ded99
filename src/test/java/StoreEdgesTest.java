/** The edges that the document names for promises 1 to 13: the last that is allowed, the empty and the full. */
public final class StoreEdgesTest {
  private static final int LEAST = Integer.MIN_VALUE;
  private static final int GREATEST = Integer.MAX_VALUE;

  private final Check check;

  private StoreEdgesTest(Check check) {
    this.check = check;
  }

  /** One table, with a row for each value, which stands in each column. */
  private static DuelSchema filled(int columns, int... values) {
    DuelSchema x = new DuelSchema();
    x.table(columns);
    for (int value : values) {
      x.insert(0, value, value, value);
    }
    return x;
  }

  private static int[] times(int count, int value) {
    int[] values = new int[count];
    for (int place = 0; place < count; place++) {
      values[place] = value;
    }
    return values;
  }

  private void promise1HasNothing() {
    DuelSchema x = new DuelSchema();
    check.due("P1 without entries in the cache", 0, x::cached);
    check.due("P1 without rounds", 0, x::rounds);
    for (int duellist = 0; duellist < 2; duellist++) {
      int d = duellist;
      check.due("P1 without coins", 0, () -> x.coins(d));
      check.due("P1 without misses", 0, () -> x.total(d));
    }
    check.due("P1 the first table is 0", 0, () -> x.table(1));
    check.due("P1 the first query is 0", 0, x::query);
    check.due("P1 the first index is 0", 0, () -> x.index(0, 0));
    check.due("P1 the first row is 0", 0, () -> x.insert(0, 0, 0, 0));
    check.due("P1 4 frames at first", 4, () -> x.frames(4));
  }

  private void promise2OneToThreeColumnsInThreeTables() {
    for (int columns = 1; columns <= 3; columns++) {
      DuelSchema x = new DuelSchema();
      for (int table = 0; table < 3; table++) {
        int t = table;
        int c = columns;
        check.due("P2 table " + t + " of " + c, t, () -> x.table(c));
        check.due("P2 its last column", 0, () -> x.counted(t, c - 1, 'r'));
        check.fails("P2 none behind the last column", Check.ARGUMENT, () -> x.counted(t, c, 'r'));
        check.fails("P2 none behind the last table", Check.INDEX, () -> x.pages(t + 1));
      }
      check.fails("P2 a fourth", Check.STATE, () -> x.table(1));
      check.fails("P2 a fourth is not there", Check.INDEX, () -> x.pages(3));
    }
  }

  /** What comes in at the edges of the bounds, for a column of a table of three. */
  private void boundsAre(String what, DuelSchema x, int column, int low, int high) {
    for (int value : new int[] {low - 1, low, high, high + 1, LEAST, GREATEST}) {
      int[] row = {50, 50, 50};
      row[column] = value;
      boolean within = value >= low && value <= high;
      check.due(what + ", column " + column + ": " + value + " comes in", within, () -> comesIn(x, row));
    }
  }

  private static boolean comesIn(DuelSchema x, int[] row) {
    try {
      return x.insert(0, row[0], row[1], row[2]) >= 0;
    } catch (IllegalArgumentException e) {
      return false;
    }
  }

  private void promise3BoundsAtFirstAndAsSet() {
    for (int column = 0; column < 3; column++) {
      int c = column;
      DuelSchema x = filled(3);
      boundsAre("P3 0 and 99 at first", x, c, 0, 99);
      check.due("P3 both at the least", 1, () -> x.bound(0, c, 0, 0));
      boundsAre("P3 0 to 0", x, c, 0, 0);
      check.due("P3 both at the greatest", 3, () -> x.bound(0, c, 99, 99));
      boundsAre("P3 99 to 99", x, c, 99, 99);
      check.due("P3 one value", 6, () -> x.bound(0, c, 50, 50));
      boundsAre("P3 50 to 50", x, c, 50, 50);
      check.due("P3 two values", 6, () -> x.bound(0, c, 50, 51));
      boundsAre("P3 50 to 51", x, c, 50, 51);
      check.due("P3 wide again", 0, () -> x.bound(0, c, 0, 99));
      boundsAre("P3 0 to 99 again", x, c, 0, 99);
      for (int other = 0; other < 3; other++) {
        if (other != c) {
          boundsAre("P3 the others keep theirs", x, other, 0, 99);
        }
      }
    }
  }

  private void promise3CountsTheRowsBeyond() {
    DuelSchema none = filled(1);
    check.due("P3 of no rows", 0, () -> none.bound(0, 0, 7, 7));
    DuelSchema x = filled(2, 19, 20, 30, 31, 19, 31);
    x.remove(0, 4);
    check.due("P3 at the edges none is beyond", 0, () -> x.bound(0, 0, 19, 31));
    check.due("P3 one below", 1, () -> x.bound(0, 0, 20, 31));
    check.due("P3 two above", 2, () -> x.bound(0, 0, 19, 30));
    check.due("P3 below and above, the removed one not", 3, () -> x.bound(0, 0, 20, 30));
    check.due("P3 all above", 5, () -> x.bound(0, 0, 0, 18));
    check.due("P3 all below", 5, () -> x.bound(0, 0, 32, 99));
    check.due("P3 the bounds of the other column count alone", 0, () -> x.bound(0, 1, 0, 99));
    x.index(0, 0);
    check.due("P3 rows that are there stay", 5, () -> x.count(0));
    check.due("P3 and keep their values", 31, () -> x.value(0, 5, 0));
    check.due("P3 and are entries", 5, () -> x.entries(0));
    DuelSchema full = filled(1, times(40, 3));
    check.due("P3 all of 40", 40, () -> full.bound(0, 0, 4, 99));
    check.due("P3 none of 40", 0, () -> full.bound(0, 0, 3, 3));
    DuelSchema two = filled(1, 5);
    two.table(1);
    two.bound(0, 0, 5, 5);
    check.due("P3 of that table alone", 0, () -> two.insert(1, 6, 0, 0));
    two.table(1);
    check.due("P3 of a table that comes behind it neither", 0, () -> two.insert(2, 99, 0, 0));
  }

  private void promise4FortyRowsInEachTable() {
    DuelSchema x = new DuelSchema();
    for (int table = 0; table < 3; table++) {
      x.table(1);
    }
    for (int row = 0; row < 40; row++) {
      for (int table = 0; table < 3; table++) {
        int t = table;
        check.due("P4 row", row, () -> x.insert(t, 0, 0, 0));
      }
    }
    for (int table = 0; table < 3; table++) {
      int t = table;
      check.fails("P4 a 41st", Check.STATE, () -> x.insert(t, 0, 0, 0));
      for (int row = 0; row < 40; row++) {
        x.remove(t, row);
      }
      check.fails("P4 there were 40, though none is left", Check.STATE, () -> x.insert(t, 0, 0, 0));
    }
  }

  private void promise4ValuesOfNoMeaning() {
    for (int wild : new int[] {LEAST, -1, 100, GREATEST}) {
      DuelSchema one = filled(1);
      check.due("P4 two and three without columns", 0, () -> one.insert(0, 0, wild, wild));
      check.fails("P4 so there is no value", Check.ARGUMENT, () -> one.value(0, 0, 1));
      DuelSchema two = filled(2);
      check.due("P4 three without its column", 0, () -> two.insert(0, 0, 99, wild));
      check.fails("P4 two with its column", Check.ARGUMENT, () -> two.insert(0, 0, wild, 0));
      check.due("P4 the value with a column", 99, () -> two.value(0, 0, 1));
      DuelSchema three = filled(3);
      check.fails("P4 three with its column", Check.ARGUMENT, () -> three.insert(0, 0, 0, wild));
    }
  }

  private void promise5FirstLastAndOnlyRow() {
    DuelSchema x = filled(1, times(40, 5));
    check.due("P5 the first one", 39, () -> x.remove(0, 0));
    check.fails("P5 the first one again", Check.NONE, () -> x.remove(0, 0));
    check.due("P5 the last one", 38, () -> x.remove(0, 39));
    check.fails("P5 the last one again", Check.NONE, () -> x.remove(0, 39));
    for (int row = 1; row < 39; row++) {
      int r = row;
      check.due("P5 down to none", 38 - r, () -> x.remove(0, r));
    }
    check.fails("P5 none is left", Check.NONE, () -> x.remove(0, 20));
    DuelSchema y = filled(1, 7);
    check.due("P5 the only one", 0, () -> y.remove(0, 0));
    check.due("P5 it leaves its place", 1, () -> y.insert(0, 8, 0, 0));
    check.due("P5 behind that", 0, () -> y.remove(0, 1));
    check.due("P5 the place behind", 2, () -> y.insert(0, 8, 0, 0));
  }

  private void promise6NoneOneAndForty() {
    DuelSchema none = filled(3);
    check.due("P6 no row", 0, () -> none.count(0));
    countsAre("P6 no row", none, 2, 0, 0, 0, 0, 0);
    DuelSchema x = filled(3, 0);
    check.due("P6 one row", 1, () -> x.count(0));
    for (int column = 0; column < 3; column++) {
      countsAre("P6 one row", x, column, 1, 1, 1, 0, 0);
    }
    for (int row = 1; row < 40; row++) {
      x.insert(0, 99, row, 99 - row);
    }
    countsAre("P6 not told, not taken", x, 0, 1, 1, 1, 0, 0);
    check.due("P6 40 rows", 40, () -> x.count(0));
    countsAre("P6 0 and 39 times 99", x, 0, 40, 10, 2, 0, 99);
    countsAre("P6 40 unlike ones", x, 1, 40, 10, 40, 0, 39);
    countsAre("P6 40 unlike ones, falling", x, 2, 40, 10, 40, 0, 98);
    x.remove(0, 0);
    x.remove(0, 1);
    check.due("P6 38 are left", 38, () -> x.count(0));
    countsAre("P6 the removed ones not", x, 0, 38, 10, 1, 99, 99);
    countsAre("P6 the removed ones not", x, 1, 38, 10, 38, 2, 39);
    countsAre("P6 the removed ones not", x, 2, 38, 10, 38, 60, 97);
    for (int row = 2; row < 40; row++) {
      x.remove(0, row);
    }
    countsAre("P6 removed since", x, 0, 38, 10, 1, 99, 99);
    check.due("P6 none is left", 0, () -> x.count(0));
    countsAre("P6 none is left, but pages", x, 0, 0, 10, 0, 0, 0);
  }

  private void countsAre(String what, DuelSchema x, int column, int... due) {
    for (int place = 0; place < 5; place++) {
      char count = "rpulg".charAt(place);
      check.due(what + ", P13 " + count + " of " + column, due[place], () -> x.counted(0, column, count));
    }
  }

  private void promise7SixIndexes() {
    DuelSchema x = filled(3, 2, 1);
    x.table(1);
    for (int number = 0; number < 6; number++) {
      int n = number;
      check.fails("P7 not there yet", Check.INDEX, () -> x.entries(n));
      check.due("P7 on column " + n % 3, n, () -> x.index(n == 5 ? 1 : 0, n == 5 ? 0 : n % 3));
      check.due("P7 entries", n == 5 ? 0 : 2, () -> x.entries(n));
    }
    check.fails("P7 a seventh", Check.STATE, () -> x.index(1, 0));
    DuelSchema full = filled(1, times(40, 9));
    full.index(0, 0);
    check.due("P7 all rows that are there", 40, () -> full.entries(0));
    full.remove(0, 7);
    full.index(0, 0);
    check.due("P7 not the removed one", 39, () -> full.entries(1));
    check.due("P7 nor its place", 8, () -> full.entryAt(1, 7));
  }

  private void promise9FourRowsAPage() {
    DuelSchema x = filled(1);
    check.due("P9 no rows", 0, () -> x.pages(0));
    for (int row = 0; row < 40; row++) {
      x.insert(0, 0, 0, 0);
      int due = new int[] {1, 1, 1, 1, 2, 2, 2, 2, 3, 3, 3, 3, 4, 4, 4, 4, 5, 5, 5, 5,
          6, 6, 6, 6, 7, 7, 7, 7, 8, 8, 8, 8, 9, 9, 9, 9, 10, 10, 10, 10}[row];
      check.due("P9 rows 0 to " + row, due, () -> x.pages(0));
    }
    for (int row = 39; row >= 0; row--) {
      x.remove(0, row);
      check.due("P9 as many as its rows ever need, without row " + row, 10, () -> x.pages(0));
    }
    DuelSchema y = filled(1, 0, 0, 0, 0);
    y.remove(0, 0);
    y.insert(0, 0, 0, 0);
    check.due("P9 a place is not used again, so a page more is", 2, () -> y.pages(0));
  }

  private void promise10FirstAndLast() {
    DuelSchema x = filled(3);
    for (int row = 0; row < 40; row++) {
      x.insert(0, row, 40 + row, 99 - row);
    }
    check.due("P10 first row, first column", 0, () -> x.value(0, 0, 0));
    check.due("P10 first row, last column", 99, () -> x.value(0, 0, 2));
    check.due("P10 last row, first column", 39, () -> x.value(0, 39, 0));
    check.due("P10 last row, column 1", 79, () -> x.value(0, 39, 1));
    check.due("P10 last row, last column", 60, () -> x.value(0, 39, 2));
    x.remove(0, 38);
    check.due("P10 behind a removed one", 60, () -> x.value(0, 39, 2));
    check.fails("P10 the removed one", Check.NONE, () -> x.value(0, 38, 0));
  }

  private void entriesAre(String what, DuelSchema x, int index, int... rows) {
    check.due(what + ", P11 entries", rows.length, () -> x.entries(index));
    for (int place = 0; place < rows.length; place++) {
      int p = place;
      check.due(what + ", P12 place " + p, rows[p], () -> x.entryAt(index, p));
    }
    check.fails(what + ", P12 behind", Check.NONE, () -> x.entryAt(index, rows.length));
    check.fails(what + ", P12 ahead", Check.NONE, () -> x.entryAt(index, -1));
  }

  private void promise11And12EntriesRise() {
    DuelSchema x = filled(1);
    x.index(0, 0);
    entriesAre("P12 none", x, 0);
    x.insert(0, 50, 0, 0);
    entriesAre("P12 one", x, 0, 0);
    x.insert(0, 50, 0, 0);
    entriesAre("P12 of like ones by rows", x, 0, 0, 1);
    x.insert(0, 0, 0, 0);
    entriesAre("P12 the least value first", x, 0, 2, 0, 1);
    x.insert(0, 99, 0, 0);
    entriesAre("P12 the greatest value last", x, 0, 2, 0, 1, 3);
    x.insert(0, 0, 0, 0);
    x.insert(0, 99, 0, 0);
    entriesAre("P12 like ones at both ends", x, 0, 2, 4, 0, 1, 3, 5);
    x.insert(0, 49, 0, 0);
    x.insert(0, 51, 0, 0);
    entriesAre("P12 one less and one more", x, 0, 2, 4, 6, 0, 1, 7, 3, 5);
    x.remove(0, 2);
    x.remove(0, 5);
    x.remove(0, 0);
    entriesAre("P12 without the first, the last and a middle one", x, 0, 4, 6, 1, 7, 3);
    x.index(0, 0);
    entriesAre("P12 of an index that comes behind them", x, 1, 4, 6, 1, 7, 3);
    for (int row : new int[] {4, 6, 1, 7, 3}) {
      x.remove(0, row);
    }
    entriesAre("P12 none is left", x, 0);
    entriesAre("P12 none is left", x, 1);
  }

  private void promise12FullIndex() {
    DuelSchema x = new DuelSchema();
    x.table(2);
    x.index(0, 0);
    x.index(0, 1);
    int[] rising = new int[40];
    int[] falling = new int[40];
    for (int row = 0; row < 40; row++) {
      x.insert(0, row, 99 - row, 0);
      rising[row] = row;
      falling[39 - row] = row;
    }
    entriesAre("P12 40 that rise", x, 0, rising);
    entriesAre("P12 40 that fall", x, 1, falling);
    x.index(0, 1);
    entriesAre("P12 40 that fall, at once", x, 2, falling);
  }

  private void promise13AheadOfAllCounts() {
    DuelSchema x = filled(2, 9, 8, 7, 6, 5);
    for (int column = 0; column < 2; column++) {
      countsAre("P13 ahead of that all are 0", x, column, 0, 0, 0, 0, 0);
    }
    x.count(0);
    countsAre("P13 taken", x, 1, 5, 2, 5, 5, 9);
    x.table(1);
    x.insert(1, 3, 0, 0);
    x.count(0);
    check.due("P13 of the other table they are not taken", 0, () -> x.counted(1, 0, 'r'));
    x.count(1);
    x.remove(1, 0);
    check.due("P13 nor do they go with the row", 3, () -> x.counted(1, 0, 'g'));
  }

  public static void main(String[] args) {
    Check check = new Check();
    StoreEdgesTest test = new StoreEdgesTest(check);
    test.promise1HasNothing();
    test.promise2OneToThreeColumnsInThreeTables();
    test.promise3BoundsAtFirstAndAsSet();
    test.promise3CountsTheRowsBeyond();
    test.promise4FortyRowsInEachTable();
    test.promise4ValuesOfNoMeaning();
    test.promise5FirstLastAndOnlyRow();
    test.promise6NoneOneAndForty();
    test.promise7SixIndexes();
    test.promise9FourRowsAPage();
    test.promise10FirstAndLast();
    test.promise11And12EntriesRise();
    test.promise12FullIndex();
    test.promise13AheadOfAllCounts();
    check.end();
  }
}
