/** The edges that the document names for promises 24 to 29: plans, their estimates, and what they read. */
public final class PlanEdgesTest {
  private final Check check;

  private PlanEdgesTest(Check check) {
    this.check = check;
  }

  /** A table of so many columns; each row has like values in all of them. */
  private static void table(DuelSchema x, int columns, int... values) {
    int table = x.table(columns);
    for (int value : values) {
      x.insert(table, value, value, value);
    }
  }

  /** So many values, from a first one on, each by a step more than the one ahead. */
  private static int[] rising(int count, int first, int step) {
    int[] values = new int[count];
    for (int place = 0; place < count; place++) {
      values[place] = first + step * place;
    }
    return values;
  }

  private static void query(DuelSchema x, int... tables) {
    int query = x.query();
    for (int table : tables) {
      x.from(query, table);
    }
  }

  private void planIs(String what, DuelSchema x, int duellist, String order, String ways, int... indexes) {
    for (int place = 0; place < indexes.length; place++) {
      int p = place;
      check.due(what + ", P24 place " + p, order.charAt(p) - '0', () -> x.planned(duellist, 0, p));
      check.due(what + ", P25 place " + p, ways.charAt(p), () -> x.way(duellist, 0, p));
      check.due(what + ", P26 place " + p, indexes[p], () -> x.usedIndex(duellist, 0, p));
    }
    check.fails(what + ", P24 behind", Check.NONE, () -> x.planned(duellist, 0, indexes.length));
    check.fails(what + ", P25 behind", Check.NONE, () -> x.way(duellist, 0, indexes.length));
    check.fails(what + ", P26 behind", Check.NONE, () -> x.usedIndex(duellist, 0, indexes.length));
    check.fails(what + ", P24 ahead", Check.NONE, () -> x.planned(duellist, 0, -1));
  }

  private void promise24NoneOneTwoAndThreePlaces() {
    DuelSchema x = new DuelSchema();
    table(x, 1, 1);
    query(x);
    for (int duellist = 0; duellist < 2; duellist++) {
      planIs("no place", x, duellist, "", "");
    }
    x.from(0, 0);
    for (int duellist = 0; duellist < 2; duellist++) {
      planIs("one place", x, duellist, "0", "f", -1);
    }
    x.from(0, 0);
    for (int duellist = 0; duellist < 2; duellist++) {
      planIs("two places", x, duellist, "01", "ff", -1, -1);
    }
    x.from(0, 0);
    for (int duellist = 0; duellist < 2; duellist++) {
      planIs("three places", x, duellist, "012", "fff", -1, -1, -1);
    }
  }

  // ---- what the book takes

  private void promise25TheBookTakesTheFirstWithAnIndex() {
    DuelSchema x = new DuelSchema();
    table(x, 3, 1, 2);
    table(x, 3, 1, 2);
    x.index(1, 0);
    x.index(0, 1);
    x.index(0, 2);
    x.index(0, 1);
    query(x, 0);
    x.where(0, 0, 0, '=', 1);
    planIs("an index on the column of another table is none", x, 0, "0", "f", -1);
    x.where(0, 0, 2, '>', 1);
    planIs("the first other condition, '>'", x, 0, "0", "c", 2);
    x.where(0, 0, 1, '<', 1);
    planIs("the first other condition stays the first", x, 0, "0", "c", 2);
    x.where(0, 0, 1, '=', 1);
    planIs("the first '=' with an index, told last; of several indexes the lowest", x, 0, "0", "c", 1);
    DuelSchema y = new DuelSchema();
    table(y, 3, 1, 2);
    y.index(0, 1);
    y.index(0, 2);
    query(y, 0);
    y.where(0, 0, 1, '<', 1);
    y.where(0, 0, 2, '>', 1);
    planIs("the first other condition, '<'", y, 0, "0", "c", 0);
    y.where(0, 0, 2, '=', 1);
    y.where(0, 0, 1, '=', 1);
    planIs("the first of two '='", y, 0, "0", "c", 1);
  }

  private void promise25TheBookTakesJoinsWithPositionsAhead() {
    DuelSchema x = new DuelSchema();
    table(x, 2, 1, 2);
    table(x, 2, 1, 2);
    x.index(0, 0);
    query(x, 0, 1);
    x.join(0, 0, 0, 1, 0);
    planIs("an index on the column of the other position is none, and none is ahead of the first",
        x, 0, "01", "ff", -1, -1);
    x.index(1, 1);
    planIs("an index on another column of the own table is none", x, 0, "01", "ff", -1, -1);
    x.index(1, 0);
    planIs("an index on the own column, of a join told from the other side", x, 0, "01", "fj", -1, 2);
    x.where(0, 1, 1, '=', 1);
    planIs("a join ahead of an '='", x, 0, "01", "fj", -1, 2);
    x.join(0, 1, 1, 0, 1);
    planIs("the first join stays the first", x, 0, "01", "fj", -1, 2);
    DuelSchema y = new DuelSchema();
    table(y, 2, 1, 2);
    y.index(0, 1);
    query(y, 0, 0, 0);
    y.join(0, 1, 1, 2, 0);
    planIs("the position 2 is not ahead of the position 1, and has no index on its column 0",
        y, 0, "012", "fff", -1, -1, -1);
    y.join(0, 0, 1, 2, 1);
    planIs("the position 2 has the position 0 ahead", y, 0, "012", "ffj", -1, -1, 0);
    y.join(0, 1, 1, 0, 0);
    planIs("the position 1 has it ahead, too", y, 0, "012", "fjj", -1, 0, 0);
  }

  // ---- what the counts take

  private void promise25ByCountsTheFirstOfLikeWays() {
    // By rows and pages: 'f' 3 pages, 'c' by '<' v: 1 + v, 'j': 1 + 12 / 12.
    waysAre("'c' of 1", 12, 1, 'c', 1);
    waysAre("'c' of 2 as 'j' of 2", 12, 2, 'c', 1);
    waysAre("'j' of 2, less than 'f' of 3 and 'c' of 4", 12, 3, 'j', 0);
    waysAre("'f' of 2 as 'j' of 2", 8, 5, 'f', -1);
    waysAre("'f' of 2 as 'c' of 2 and 'j' of 2", 8, 1, 'f', -1);
  }

  /** A row of 0, then rows from 0 on, joined by the column 0, with a condition of the column 1. */
  private void waysAre(String what, int rows, int limit, char way, int index) {
    DuelSchema x = new DuelSchema();
    table(x, 2, rising(rows, 0, 1));
    table(x, 1, 0);
    x.index(0, 0);
    x.index(0, 1);
    x.count(0);
    x.count(1);
    query(x, 1, 0);
    x.where(0, 1, 1, '<', limit);
    x.join(0, 0, 0, 1, 0);
    planIs(what, x, 1, "01", "f" + way, -1, index);
  }

  private void promise25ByCountsTheFirstTold() {
    DuelSchema x = new DuelSchema();
    table(x, 3, rising(12, 0, 1));
    x.index(0, 0);
    x.index(0, 1);
    x.index(0, 0);
    x.count(0);
    query(x, 0);
    query(x, 0, 0);
    x.where(0, 0, 1, '=', 1);
    x.where(0, 0, 0, '=', 1);
    planIs("of like conditions the first told", x, 1, "0", "c", 1);
    DuelSchema y = new DuelSchema();
    table(y, 3, rising(12, 0, 1));
    y.index(0, 0);
    y.index(0, 1);
    y.index(0, 0);
    y.count(0);
    query(y, 0);
    y.where(0, 0, 1, '<', 2);
    y.where(0, 0, 0, '=', 1);
    planIs("the least, told last; of several indexes the lowest", y, 1, "0", "c", 0);
    DuelSchema z = new DuelSchema();
    table(z, 3, rising(12, 0, 1));
    z.index(0, 1);
    z.index(0, 0);
    z.count(0);
    query(z, 0, 0);
    z.join(0, 1, 0, 0, 2);
    z.join(0, 1, 1, 0, 2);
    planIs("of like joins the first told", z, 1, "01", "fj", -1, 1);
  }

  private void promise24ByCountsTheFirstOfLikeOrders() {
    String[] tables = {"000", "100", "010", "001", "011", "101", "110", "111"};
    // With one row and one page in table 1, twelve and three in table 0: what is small comes first.
    String[] orders = {"012", "012", "102", "201", "120", "021", "012", "012"};
    for (int kind = 0; kind < tables.length; kind++) {
      DuelSchema x = new DuelSchema();
      table(x, 1, rising(12, 0, 1));
      table(x, 1, 0);
      x.count(0);
      x.count(1);
      query(x, tables[kind].charAt(0) - '0', tables[kind].charAt(1) - '0', tables[kind].charAt(2) - '0');
      planIs("tables " + tables[kind], x, 1, orders[kind], "fff", -1, -1, -1);
      planIs("tables " + tables[kind], x, 0, "012", "fff", -1, -1, -1);
    }
  }

  /** One row in one page, five in two, twelve in three: the small ones come first, in each of the six orders. */
  private void promise24ByCountsEachOrder() {
    int[][] tables = {{0, 1, 2}, {0, 2, 1}, {1, 0, 2}, {2, 0, 1}, {1, 2, 0}, {2, 1, 0}};
    String[] orders = {"012", "021", "102", "120", "201", "210"};
    for (int kind = 0; kind < tables.length; kind++) {
      DuelSchema x = new DuelSchema();
      table(x, 1, 0);
      table(x, 1, rising(5, 0, 1));
      table(x, 1, rising(12, 0, 1));
      for (int table = 0; table < 3; table++) {
        x.count(table);
      }
      query(x, tables[kind]);
      planIs("the order " + orders[kind], x, 1, orders[kind], "fff", -1, -1, -1);
      check.due("P27 1 + 1 * 2 + 5 * 3", 18L, () -> x.estimate(1, 0));
      check.due("P29 1 + 1 * 2 + 5 * 3", 18, () -> x.reads(1, 0));
      // Where the tables 0, 1 and 2 stand in the query, so that 1 is joined with 0, and 2 with 1.
      int zero = orders[kind].charAt(0) - '0';
      int one = orders[kind].charAt(1) - '0';
      int two = orders[kind].charAt(2) - '0';
      x.join(0, two, 0, one, 0);
      x.join(0, one, 0, zero, 0);
      planIs("joined, the order " + orders[kind], x, 1, orders[kind], "fff", -1, -1, -1);
      check.due("P27 1 + 1 * 2 + 1 * 3", 6L, () -> x.estimate(1, 0));
      check.due("P29 rows that do not fit by a join with a position ahead", 6, () -> x.reads(1, 0));
      check.due("P21 as both find", 1, () -> x.answers(0));
    }
  }

  /** 12 rows in 3 pages, with 2 unlike values in the column 0 and 12 in the column 1; joined with one row. */
  private void promise25ByCountsTheLeastOfJoins() {
    for (int first = 0; first < 2; first++) {
      DuelSchema x = new DuelSchema();
      x.table(2);
      for (int row = 0; row < 12; row++) {
        x.insert(0, row % 2, row, 0);
      }
      table(x, 1, 0);
      x.index(0, 0);
      x.index(0, 1);
      x.count(0);
      x.count(1);
      query(x, 1, 0);
      x.join(0, 1, first, 0, 0);
      x.join(0, 0, 0, 1, 1 - first);
      planIs("the least join, told at " + (1 - first), x, 1, "01", "fj", -1, 1);
      check.due("P27 a page, and 1 + 12 / 12", 3L, () -> x.estimate(1, 0));
      planIs("by the book the first join", x, 0, "01", "fj", -1, first);
      check.due("P27 a page, and 1 + 12 / 2 or 1 + 12 / 12", first == 0 ? 8L : 3L, () -> x.estimate(0, 0));
    }
  }

  // ---- estimates

  /** The estimate of one position by an index and one condition. */
  private void costs(String what, int[] values, int[][] due) {
    for (int[] row : due) {
      DuelSchema x = new DuelSchema();
      table(x, 1, values);
      x.index(0, 0);
      x.count(0);
      query(x, 0);
      x.where(0, 0, 0, (char) row[0], row[1]);
      check.due("P27 " + what + " " + (char) row[0] + row[1], row[2], () -> x.estimate(0, 0));
      int pages = x.pages(0);
      check.due("P27 the least of both, " + what + " " + (char) row[0] + row[1], Math.min(pages, row[2]),
          () -> x.estimate(1, 0));
      check.due("P25 " + what + " " + (char) row[0] + row[1], row[2] < pages ? 'c' : 'f', () -> x.way(1, 0, 0));
    }
  }

  private void promise27Shares() {
    costs("10 to 19", rising(10, 10, 1), new int[][] {
      {'<', 0, 1}, {'<', 9, 1}, {'<', 10, 1}, {'<', 11, 2}, {'<', 12, 3}, {'<', 19, 10}, {'<', 20, 11},
      {'<', 21, 11}, {'<', 99, 11}, {'>', 99, 1}, {'>', 20, 1}, {'>', 19, 1}, {'>', 18, 2}, {'>', 17, 3},
      {'>', 10, 10}, {'>', 9, 11}, {'>', 8, 11}, {'>', 0, 11}, {'=', 10, 2}, {'=', 0, 2}, {'=', 99, 2}});
    costs("five like ones", new int[] {50, 50, 50, 50, 50}, new int[][] {
      {'<', 50, 1}, {'<', 51, 6}, {'>', 50, 1}, {'>', 49, 6}, {'=', 50, 6}, {'=', 0, 6}});
    costs("0 and 99", new int[] {0, 99}, new int[][] {
      {'<', 0, 1}, {'<', 1, 1}, {'<', 50, 2}, {'<', 99, 2}, {'>', 0, 2}, {'>', 98, 1}, {'>', 99, 1}, {'=', 0, 2}});
    costs("cut: a third of three is less than one", rising(3, 10, 1), new int[][] {
      {'<', 11, 1}, {'<', 12, 2}, {'<', 13, 4}, {'>', 11, 1}, {'>', 10, 2}, {'>', 9, 4}, {'=', 11, 1}});
    costs("cut: four of three unlike ones", new int[] {10, 10, 11, 12}, new int[][] {{'=', 11, 2}});
    costs("40 unlike ones", rising(40, 0, 1), new int[][] {
      {'=', 0, 2}, {'<', 1, 2}, {'<', 9, 10}, {'<', 10, 11}, {'<', 39, 40}, {'<', 40, 41}, {'>', 30, 10}});
    costs("40 unlike ones with gaps", rising(40, 20, 2), new int[][] {{'<', 20, 1}, {'<', 21, 1}, {'>', 97, 1}});
  }

  private void promise27DividedByNoneIsDividedByOne() {
    for (int counted = 0; counted < 2; counted++) {
      DuelSchema x = new DuelSchema();
      table(x, 1);
      if (counted == 1) {
        x.count(0);
      }
      for (int row = 0; row < 5; row++) {
        x.insert(0, row, 0, 0);
      }
      x.index(0, 0);
      query(x, 0, 0, 0);
      String what = counted == 1 ? "P27 counted with no rows" : "P27 not counted";
      check.due(what + ", three times 'f' of no pages", 0L, () -> x.estimate(0, 0));
      x.where(0, 0, 0, '=', 1);
      check.due(what + ", 'c' is 1 more than none", 1L, () -> x.estimate(0, 0));
      x.join(0, 1, 0, 0, 0);
      check.due(what + ", 'j' is 1 more than none", 2L, () -> x.estimate(0, 0));
      x.where(0, 2, 0, '<', 1);
      check.due(what + ", choices are at least 1", 3L, () -> x.estimate(0, 0));
      check.due(what + ", the least", 0L, () -> x.estimate(1, 0));
      planIs(what, x, 1, "012", "fff", -1, -1, -1);
      x.count(0);
      // By the book: 1 + 5 / 5, one choice; 1 + 5 / 5, one choice; 1 + 5 / 5.
      check.due("P27 counted with rows", 6L, () -> x.estimate(0, 0));
    }
  }

  /** A query of ten rows in three pages, with 10 to 19, and of one row. */
  private static DuelSchema tenAndOne() {
    DuelSchema x = new DuelSchema();
    table(x, 1, rising(10, 10, 1));
    table(x, 1, 5);
    x.count(0);
    x.count(1);
    query(x, 0, 1);
    return x;
  }

  private void promise27ChoicesAtLeastOne() {
    DuelSchema x = tenAndOne();
    check.due("P27 three pages, ten times a page", 13L, () -> x.estimate(0, 0));
    x.where(0, 0, 0, '<', 10);
    check.due("P27 none that are such: one choice all the same", 4L, () -> x.estimate(0, 0));
    DuelSchema y = tenAndOne();
    y.where(0, 0, 0, '=', 10);
    check.due("P27 one choice", 4L, () -> y.estimate(0, 0));
    y.where(0, 0, 0, '=', 11);
    check.due("P27 a tenth of one choice is one at the end", 4L, () -> y.estimate(0, 0));
    DuelSchema z = tenAndOne();
    z.where(0, 0, 0, '<', 12);
    check.due("P27 two choices", 5L, () -> z.estimate(0, 0));
  }

  /** 31 rows with three unlike values in the column 0, and 0 and 1 in the column 1; a table of one row. */
  private static DuelSchema cut() {
    DuelSchema x = new DuelSchema();
    x.table(2);
    for (int row = 0; row < 31; row++) {
      x.insert(0, row % 3, row % 2, 0);
    }
    table(x, 1, 0);
    x.count(0);
    x.count(1);
    return x;
  }

  private void promise27CutEachTimeAsTold() {
    DuelSchema x = cut();
    query(x, 0, 1);
    x.where(0, 0, 0, '=', 1);
    x.where(0, 0, 1, '<', 1);
    // 31 by 333 thousandths is 10, the half of it 5.
    check.due("P27 a third, then a half", 13L, () -> x.estimate(0, 0));
    DuelSchema y = cut();
    query(y, 0, 1);
    y.where(0, 0, 1, '<', 1);
    y.where(0, 0, 0, '=', 1);
    // The half of 31 is 15, by 333 thousandths 4.
    check.due("P27 a half, then a third", 12L, () -> y.estimate(0, 0));
    DuelSchema z = cut();
    query(z, 1, 0, 1);
    z.join(0, 1, 0, 0, 0);
    z.where(0, 1, 1, '<', 1);
    check.due("P27 conditions ahead of joins, though a join was told first", 1L + 8 + 4, () -> z.estimate(0, 0));
    DuelSchema w = cut();
    query(w, 1, 0, 1);
    w.join(0, 0, 0, 1, 0);
    w.join(0, 1, 0, 0, 0);
    // 31 by 333 thousandths is 10, and by 333 more 3.
    check.due("P27 a join that is told twice counts twice", 1L + 8 + 3, () -> w.estimate(0, 0));
    check.due("P21 but holds as one", 11, () -> w.answers(0));
  }

  private void promise27Greatest() {
    DuelSchema x = new DuelSchema();
    table(x, 1, rising(40, 0, 1));
    x.count(0);
    query(x, 0, 0, 0);
    for (int duellist = 0; duellist < 2; duellist++) {
      int d = duellist;
      check.due("P27 10 + 40 * 10 + 1600 * 10", 16410L, () -> x.estimate(d, 0));
      check.due("P29 so many reads", 16410, () -> x.reads(d, 0));
      check.due("P28 with 4 frames", true, () -> x.cold(d, 0) > 10);
    }
    x.frames(10);
    check.due("P28 as many frames as pages", 10, () -> x.cold(0, 0));
    x.frames(12);
    check.due("P28 more frames than pages", 10, () -> x.cold(1, 0));
    x.frames(0);
    check.due("P28 without frames", 16410, () -> x.cold(0, 0));
  }

  // ---- reads

  /** The duellist 1 goes through all pages, then the other one by the index: its reads are the latest ones. */
  private void readsAre(String what, int[] values, char sign, int value, int reads, int... latest) {
    DuelSchema x = new DuelSchema();
    table(x, 1, values);
    table(x, 1);
    x.index(0, 0);
    x.frames(12);
    query(x, 0);
    query(x, 1);
    x.where(0, 0, 0, sign, value);
    String call = what + " " + sign + value;
    check.due("P25 " + call, 'c', () -> x.way(0, 0, 0));
    check.due("P29 " + call, reads, () -> x.reads(0, 0));
    check.due("P28 " + call, latest.length, () -> x.cold(0, 0));
    x.round(1);
    x.round(0);
    for (int place = 0; place < latest.length; place++) {
      int p = place;
      check.due("P29 " + call + ", what is read, latest first", latest[p], () -> x.cachedAt(p));
    }
  }

  private void promise29LeavesOfNine() {
    int[] nine = rising(9, 10, 10);
    readsAre("ahead of all", nine, '=', 0, 1, 300);
    readsAre("ahead of all", nine, '=', 9, 1, 300);
    readsAre("the first entry", nine, '=', 10, 2, 0, 300);
    readsAre("ahead of the last entry of a leaf", nine, '=', 75, 1, 300);
    readsAre("the last entry of a leaf", nine, '=', 80, 2, 1, 300);
    readsAre("ahead of the first entry of the next leaf", nine, '=', 81, 1, 301);
    readsAre("the first entry of the next leaf", nine, '=', 90, 2, 2, 301);
    readsAre("behind all", nine, '=', 91, 1, 301);
    readsAre("behind all", nine, '=', 99, 1, 301);
    readsAre("no entry is wanted", nine, '<', 0, 1, 300);
    readsAre("no entry is less", nine, '<', 10, 1, 300);
    readsAre("one entry is less", nine, '<', 11, 2, 0, 300);
    readsAre("a whole leaf", nine, '<', 90, 9, 1, 0, 300);
    readsAre("a leaf and one more", nine, '<', 91, 11, 2, 301, 1, 0, 300);
    readsAre("all", nine, '<', 99, 11, 2, 301, 1, 0, 300);
    readsAre("no entry is wanted", nine, '>', 99, 1, 301);
    readsAre("no entry is greater", nine, '>', 90, 1, 301);
    readsAre("one entry is greater", nine, '>', 89, 2, 2, 301);
    readsAre("the first of the next leaf", nine, '>', 80, 2, 2, 301);
    readsAre("the last of a leaf, and the next one", nine, '>', 79, 4, 2, 301, 1, 300);
    readsAre("all", nine, '>', 9, 11, 2, 301, 1, 0, 300);
    readsAre("all", nine, '>', 0, 11, 2, 301, 1, 0, 300);
  }

  private void promise29LeavesOfOneEightAndForty() {
    int[] one = {10};
    readsAre("one entry", one, '=', 9, 1, 300);
    readsAre("one entry", one, '=', 10, 2, 0, 300);
    readsAre("one entry", one, '=', 11, 1, 300);
    int[] eight = rising(8, 10, 10);
    readsAre("the last leaf of eight entries", eight, '=', 99, 1, 300);
    readsAre("the last leaf of eight entries", eight, '>', 99, 1, 300);
    readsAre("all of eight entries", eight, '<', 99, 9, 1, 0, 300);
    int[] forty = rising(40, 0, 1);
    readsAre("the last leaf of 40", forty, '>', 99, 1, 304);
    readsAre("the last entry of 40", forty, '=', 39, 2, 9, 304);
    readsAre("the last entry of the leaf 3", forty, '=', 31, 2, 7, 303);
    readsAre("the first entry of the leaf 4", forty, '=', 32, 2, 8, 304);
    int[] like = {5, 5, 5, 5, 5, 5, 5, 5, 5};
    readsAre("like ones in two leaves", like, '=', 5, 11, 2, 301, 1, 0, 300);
    int[] late = {1, 1, 1, 1, 1, 1, 1, 5, 5, 5};
    readsAre("from the last of a leaf on", late, '=', 5, 5, 2, 301, 1, 300);
  }

  private void promise29EmptyIndexes() {
    DuelSchema x = new DuelSchema();
    table(x, 1, rising(9, 10, 10));
    table(x, 1);
    x.index(0, 0);
    x.index(1, 0);
    for (int query = 0; query < 3; query++) {
      query(x, 1);
      x.where(query, 0, 0, "=<>".charAt(query), query == 2 ? 99 : 0);
      int q = query;
      check.due("P25 of an index without entries", 'c', () -> x.way(0, q, 0));
      check.due("P29 of an index without entries none", 0, () -> x.reads(0, q));
      check.due("P28 of an index without entries none", 0, () -> x.cold(0, q));
      check.fails("P38 of an index without entries none", Check.ARITHMETIC, () -> x.hitShare(0, q));
    }
    x.insert(1, 50, 0, 0);
    check.due("P29 of an index with one entry a leaf", 1, () -> x.reads(0, 0));
    check.due("P29 though a '<' of 0 wants no entry", 1, () -> x.reads(0, 1));
    check.due("P29 though a '>' of 99 wants no entry", 1, () -> x.reads(0, 2));
    x.remove(1, 0);
    check.due("P29 of an index without entries again", 0, () -> x.reads(0, 2));
    query(x, 0);
    x.where(3, 0, 0, '>', 99);
    query(x, 0);
    x.frames(12);
    x.remove(0, 8);
    x.round(0);
    x.round(3);
    check.due("P29 the last leaf, as the ninth entry is gone", 300, () -> x.cachedAt(0));
  }

  /** The position 0 goes through a page of these values; the position 1 by a join with 10, 20, .. 90. */
  private static DuelSchema joined(int... values) {
    DuelSchema x = new DuelSchema();
    table(x, 1, rising(9, 10, 10));
    table(x, 1, values);
    x.index(0, 0);
    query(x, 1, 0);
    x.join(0, 0, 0, 1, 0);
    return x;
  }

  private void promise29LeavesByJoins() {
    int[][] due = {{0, 2}, {9, 2}, {10, 3}, {75, 2}, {80, 3}, {81, 2}, {90, 3}, {91, 2}, {99, 2}};
    int[] leaf = {300, 300, 300, 300, 300, 301, 301, 301, 301};
    for (int place = 0; place < due.length; place++) {
      DuelSchema x = joined(due[place][0]);
      int of = place;
      check.due("P25 'j'", 'j', () -> x.way(0, 0, 1));
      check.due("P29 a page, a leaf, and a page if there is a like one: " + due[place][0], due[place][1],
          () -> x.reads(0, 0));
      query(x);
      x.table(1);
      x.from(1, 2);
      x.frames(12);
      x.round(1);
      x.round(0);
      check.due("P29 the leaf of " + due[place][0], leaf[of], () -> x.cachedAt(due[of][1] - 2));
    }
    DuelSchema x = joined(85, 90, 95, 5);
    check.due("P29 for each row that fits the next one is gone through", 6, () -> x.reads(0, 0));
    int[] misses = {6, 5, 4, 4};
    for (int frames = 0; frames < 4; frames++) {
      int f = frames;
      x.frames(f);
      check.due("P28 with frames " + f, misses[f], () -> x.cold(0, 0));
    }
    DuelSchema none = joined();
    check.due("P29 no row fits, no leaf is read", 0, () -> none.reads(0, 0));
    DuelSchema y = joined(10, 20);
    for (int row = 0; row < 9; row++) {
      y.remove(0, row);
    }
    check.due("P25 'j' of an index without entries", 'j', () -> y.way(0, 0, 1));
    check.due("P29 the page of the position 0 alone", 1, () -> y.reads(0, 0));
    check.due("P21 no answers", 0, () -> y.answers(0));
  }

  private void promise29PagesAheadOfTheirRows() {
    DuelSchema x = new DuelSchema();
    table(x, 1, 1, 1, 1, 1, 2);
    table(x, 1, 7);
    query(x, 0, 1);
    x.round(0);
    check.cacheIs("P29 the page 1 ahead of its row, the other table behind it", x, 100, 1, 0);
    check.due("P29 two pages and five", 7, () -> x.reads(0, 0));
    x.where(0, 0, 0, '<', 2);
    x.flush();
    x.round(0);
    check.cacheIs("P29 the row of the page 1 does not fit, but the page is read", x, 1, 100, 0);
    check.due("P29 two pages and four", 6, () -> x.reads(0, 0));
    x.remove(0, 0);
    x.remove(0, 1);
    x.remove(0, 2);
    check.due("P29 two pages and one", 3, () -> x.reads(0, 0));
    x.remove(0, 3);
    check.due("P29 a page without rows is read", 2, () -> x.reads(0, 0));
    x.remove(0, 4);
    check.due("P29 all pages of a table without rows", 2, () -> x.reads(1, 0));
    x.insert(1, 7, 0, 0);
    x.where(0, 1, 0, '>', 7);
    x.insert(0, 1, 0, 0);
    check.due("P29 a row that comes again behind them", 3, () -> x.reads(0, 0));
  }

  /** A page with two rows, for each of which three pages are read. */
  private void promise28FramesAtTheirEdges() {
    DuelSchema x = new DuelSchema();
    table(x, 1, 1, 1);
    table(x, 1, rising(9, 0, 1));
    query(x, 0, 1);
    int[] misses = {7, 7, 7, 4, 4, 4};
    for (int frames = 0; frames < misses.length; frames++) {
      int f = frames;
      x.frames(f);
      check.due("P28 with frames " + f, misses[f], () -> x.cold(0, 0));
      check.due("P29 misses or not", 7, () -> x.reads(0, 0));
    }
    DuelSchema y = new DuelSchema();
    table(y, 1);
    query(y, 0);
    check.due("P28 nothing is read", 0, () -> y.cold(1, 0));
    check.due("P29 nothing is read", 0, () -> y.reads(1, 0));
    y.insert(0, 0, 0, 0);
    check.due("P28 a page", 1, () -> y.cold(1, 0));
    check.due("P29 a page", 1, () -> y.reads(1, 0));
  }

  public static void main(String[] args) {
    Check check = new Check();
    PlanEdgesTest test = new PlanEdgesTest(check);
    test.promise24NoneOneTwoAndThreePlaces();
    test.promise25TheBookTakesTheFirstWithAnIndex();
    test.promise25TheBookTakesJoinsWithPositionsAhead();
    test.promise25ByCountsTheFirstOfLikeWays();
    test.promise25ByCountsTheFirstTold();
    test.promise24ByCountsTheFirstOfLikeOrders();
    test.promise24ByCountsEachOrder();
    test.promise25ByCountsTheLeastOfJoins();
    test.promise27Shares();
    test.promise27DividedByNoneIsDividedByOne();
    test.promise27ChoicesAtLeastOne();
    test.promise27CutEachTimeAsTold();
    test.promise27Greatest();
    test.promise29LeavesOfNine();
    test.promise29LeavesOfOneEightAndForty();
    test.promise29EmptyIndexes();
    test.promise29LeavesByJoins();
    test.promise29PagesAheadOfTheirRows();
    test.promise28FramesAtTheirEdges();
    check.end();
  }
}
