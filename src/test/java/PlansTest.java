/** Promises 24 to 29: plans by the book and by the counts, their estimates and what they read. */
public final class PlansTest {
  private final Check check;

  private PlansTest(Check check) {
    this.check = check;
  }

  /** A table of 12 rows with 0 to 11, and one of 4 rows with 0 to 3; both counted. */
  private static DuelSchema big() {
    DuelSchema x = new DuelSchema();
    x.table(2);
    x.table(2);
    for (int row = 0; row < 12; row++) {
      x.insert(0, row, row / 2, 0);
    }
    for (int row = 0; row < 4; row++) {
      x.insert(1, row, row, 0);
    }
    x.count(0);
    x.count(1);
    x.query();
    return x;
  }

  private void planIs(DuelSchema x, int duellist, String positions, String ways, int... indexes) {
    for (int place = 0; place < indexes.length; place++) {
      int at = place;
      String what = "duellist " + duellist + ", place " + place;
      check.due("P24 " + what, positions.charAt(at) - '0', () -> x.planned(duellist, 0, at));
      check.due("P25 " + what, ways.charAt(at), () -> x.way(duellist, 0, at));
      check.due("P26 " + what, indexes[at], () -> x.usedIndex(duellist, 0, at));
    }
    for (int place : new int[] {-1, indexes.length, Integer.MAX_VALUE, Integer.MIN_VALUE}) {
      check.fails("P24 place " + place, Check.NONE, () -> x.planned(duellist, 0, place));
      check.fails("P25 place " + place, Check.NONE, () -> x.way(duellist, 0, place));
      check.fails("P26 place " + place, Check.NONE, () -> x.usedIndex(duellist, 0, place));
    }
  }

  private void figuresAre(DuelSchema x, int duellist, long estimate, int reads, int cold) {
    check.due("P27 estimate of " + duellist, estimate, () -> x.estimate(duellist, 0));
    check.due("P29 reads of " + duellist, reads, () -> x.reads(duellist, 0));
    check.due("P28 cold of " + duellist, cold, () -> x.cold(duellist, 0));
  }

  private void wrongInputs() {
    DuelSchema x = big();
    planIs(x, 0, "", "");
    planIs(x, 1, "", "");
    for (int duellist : new int[] {-1, 2, Integer.MIN_VALUE, Integer.MAX_VALUE}) {
      check.fails("P24 duellist", Check.ARGUMENT, () -> x.planned(duellist, 9, 9));
      check.fails("P25 duellist", Check.ARGUMENT, () -> x.way(duellist, 9, 9));
      check.fails("P26 duellist", Check.ARGUMENT, () -> x.usedIndex(duellist, 9, 9));
      check.fails("P27 duellist", Check.ARGUMENT, () -> x.estimate(duellist, 9));
      check.fails("P28 duellist", Check.ARGUMENT, () -> x.cold(duellist, 9));
      check.fails("P29 duellist", Check.ARGUMENT, () -> x.reads(duellist, 9));
    }
    for (int query : new int[] {-1, 1, 8}) {
      check.fails("P24 query", Check.INDEX, () -> x.planned(0, query, 0));
      check.fails("P25 query", Check.INDEX, () -> x.way(0, query, 0));
      check.fails("P26 query", Check.INDEX, () -> x.usedIndex(0, query, 0));
      check.fails("P27 query", Check.INDEX, () -> x.estimate(0, query));
      check.fails("P28 query", Check.INDEX, () -> x.cold(1, query));
      check.fails("P29 query", Check.INDEX, () -> x.reads(1, query));
    }
    check.fails("P27 no position", Check.UNSUPPORTED, () -> x.estimate(1, 0));
    check.fails("P28 no position", Check.UNSUPPORTED, () -> x.cold(0, 0));
    check.fails("P29 no position", Check.UNSUPPORTED, () -> x.reads(0, 0));
  }

  private void book() {
    DuelSchema x = big();
    x.index(0, 0);
    x.index(1, 0);
    x.index(1, 1);
    x.index(1, 0);
    x.from(0, 0);
    x.from(0, 1);
    planIs(x, 0, "01", "ff", -1, -1);
    x.where(0, 1, 0, '<', 2);
    planIs(x, 0, "01", "fc", -1, 1);
    x.where(0, 1, 1, '=', 1);
    planIs(x, 0, "01", "fc", -1, 2);
    x.where(0, 0, 1, '=', 1);
    planIs(x, 0, "01", "fc", -1, 2);
    x.join(0, 0, 0, 1, 0);
    planIs(x, 0, "01", "fj", -1, 1);
    x.where(0, 0, 0, '>', 1);
    planIs(x, 0, "01", "cj", 0, 1);
  }

  private void bookJoins() {
    DuelSchema x = big();
    x.index(1, 1);
    x.index(0, 1);
    x.from(0, 0);
    x.from(0, 1);
    x.from(0, 0);
    x.join(0, 1, 0, 2, 0);
    planIs(x, 0, "012", "fff", -1, -1, -1);
    x.join(0, 2, 1, 1, 1);
    planIs(x, 0, "012", "ffj", -1, -1, 1);
    x.join(0, 0, 0, 1, 1);
    planIs(x, 0, "012", "fjj", -1, 0, 1);
    x.index(0, 0);
    planIs(x, 0, "012", "fjj", -1, 0, 2);
  }

  private void costs() {
    DuelSchema x = big();
    x.index(0, 0);
    x.from(0, 0);
    planIs(x, 1, "0", "f", -1);
    figuresAre(x, 1, 3, 3, 3);
    x.where(0, 0, 0, '<', 3);
    // 12 rows times 250 thousandths: 1 + 3 of the index are more than 3 pages.
    planIs(x, 1, "0", "f", -1);
    figuresAre(x, 1, 3, 3, 3);
    figuresAre(x, 0, 4, 4, 2);
    x.where(0, 0, 0, '<', 2);
    // 12 rows times 166 thousandths: 1 + 1.
    planIs(x, 1, "0", "c", 0);
    figuresAre(x, 1, 2, 3, 2);
    planIs(x, 0, "0", "c", 0);
    figuresAre(x, 0, 4, 4, 2);
    x.where(0, 0, 0, '=', 7);
    // The first other condition gives way to '='; 12 rows times 83 thousandths: 1 + 0.
    figuresAre(x, 0, 1, 2, 2);
    planIs(x, 1, "0", "c", 0);
    figuresAre(x, 1, 1, 2, 2);
  }

  private void likeCosts() {
    DuelSchema x = big();
    x.index(0, 1);
    x.index(0, 0);
    x.from(0, 0);
    // 12 rows times 166 thousandths of the column 1: 1 + 1; of the column 0, of '>' 9: 1 + 1.
    x.where(0, 0, 1, '=', 3);
    x.where(0, 0, 0, '>', 9);
    planIs(x, 1, "0", "c", 0);
    check.due("P27 alike", 2L, () -> x.estimate(1, 0));
    DuelSchema y = big();
    y.index(1, 0);
    y.from(0, 1);
    y.where(0, 0, 0, '=', 3);
    // 4 rows times 250 thousandths: 1 + 1, more than one page.
    planIs(y, 1, "0", "f", -1);
    planIs(y, 0, "0", "c", 0);
    figuresAre(y, 0, 2, 2, 2);
  }

  private void orders() {
    DuelSchema x = big();
    x.index(0, 0);
    x.from(0, 0);
    x.from(0, 1);
    // 3 + 12 * 1 the one way, 1 + 4 * 3 the other way.
    planIs(x, 1, "10", "ff", -1, -1);
    figuresAre(x, 1, 13, 13, 4);
    figuresAre(x, 0, 15, 15, 4);
    x.join(0, 0, 0, 1, 0);
    // 1 + 4 * (1 + 12 / 12): a page, then for each of its rows a leaf and a page.
    planIs(x, 1, "10", "fj", -1, 0);
    figuresAre(x, 1, 9, 9, 3);
    planIs(x, 0, "01", "ff", -1, -1);
    figuresAre(x, 0, 15, 15, 4);
    check.due("P31 round", 1, () -> x.round(0));
    check.due("P34 by the book", 4, () -> x.misses(0, 0));
    check.due("P34 by counts, as the cache is warm", 2, () -> x.misses(1, 0));
  }

  private void likeOrders() {
    DuelSchema x = big();
    x.from(0, 1);
    x.from(0, 1);
    x.from(0, 1);
    planIs(x, 1, "012", "fff", -1, -1, -1);
    // 1 + 4 + 16.
    figuresAre(x, 1, 21, 21, 1);
    x.where(0, 2, 0, '=', 1);
    // 1 + 1 + 4 with the position 2 ahead.
    planIs(x, 1, "201", "fff", -1, -1, -1);
    figuresAre(x, 1, 6, 6, 1);
    x.join(0, 1, 0, 2, 0);
    // 1 + 1 + 1: behind the position 2 a join leaves one choice of the position 1.
    planIs(x, 1, "210", "fff", -1, -1, -1);
    figuresAre(x, 1, 3, 3, 1);
  }

  private void joinToldTwice() {
    DuelSchema x = big();
    x.from(0, 0);
    x.from(0, 0);
    x.from(0, 0);
    x.join(0, 0, 0, 1, 0);
    // Shares of 83 thousandths: 12, 12 * 12 * 83 / 1000 = 11; 3 + 36 + 33.
    check.due("P27 told once", 72L, () -> x.estimate(0, 0));
    x.join(0, 1, 0, 0, 0);
    // 11 * 83 / 1000 = 0, which is 1 at the end of the place; 3 + 36 + 3.
    check.due("P27 told twice", 42L, () -> x.estimate(0, 0));
    DuelSchema y = big();
    y.from(0, 0);
    y.from(0, 1);
    y.from(0, 0);
    y.join(0, 0, 1, 1, 0);
    // The column 1 of table 0 has 6 unlike values, that of table 1 has 4: 166 thousandths.
    // 12, 48 * 166 / 1000 = 7; 3 + 12 * 1 + 7 * 3.
    check.due("P27 of both the one that has more", 36L, () -> y.estimate(0, 0));
  }

  private void uncounted() {
    DuelSchema x = new DuelSchema();
    x.table(1);
    for (int row = 0; row < 6; row++) {
      x.insert(0, row, 0, 0);
    }
    x.index(0, 0);
    x.query();
    x.from(0, 0);
    x.from(0, 0);
    x.where(0, 0, 0, '>', 2);
    x.join(0, 0, 0, 1, 0);
    planIs(x, 0, "01", "cj", 0, 0);
    planIs(x, 1, "01", "ff", -1, -1);
    check.due("P27 without counts, by the book", 2L, () -> x.estimate(0, 0));
    check.due("P27 without counts", 0L, () -> x.estimate(1, 0));
    x.count(0);
    // f: 2; c: 1 + 6 * 500 / 1000; behind it 3 choices; j: 1 + 6 / 6.
    check.due("P27 with counts", 4L + 3 * 2, () -> x.estimate(0, 0));
    check.due("P27 with counts", 2L + 3 * 2, () -> x.estimate(1, 0));
    planIs(x, 1, "01", "ff", -1, -1);
  }

  /** 17 rows with 0, 2, .. 32 in three leaves and five pages, by the book with one condition each. */
  private void leaves() {
    int[][] due = {
        // sign, value, reads, misses with 12 frames
        {'=', 4, 2, 2}, {'=', 5, 1, 1}, {'=', 99, 1, 1}, {'=', 0, 2, 2}, {'=', 32, 2, 2},
        {'<', 0, 1, 1}, {'<', 1, 2, 2}, {'<', 16, 9, 3}, {'<', 17, 11, 5}, {'<', 99, 20, 8},
        {'>', 99, 1, 1}, {'>', 32, 1, 1}, {'>', 31, 2, 2}, {'>', 29, 4, 4}, {'>', 0, 19, 8}};
    for (int[] row : due) {
      DuelSchema x = leafy();
      x.where(0, 0, 0, (char) row[0], row[1]);
      String what = (char) row[0] + " " + row[1];
      check.due("P25 " + what, 'c', () -> x.way(0, 0, 0));
      check.due("P29 " + what, row[2], () -> x.reads(0, 0));
      check.due("P28 " + what, row[3], () -> x.cold(0, 0));
    }
    leafIs('=', 15, 301);
    leafIs('=', 14 + 1, 301);
    leafIs('=', 13, 300);
    leafIs('=', 31, 302);
    leafIs('=', 99, 302);
    leafIs('<', 0, 300);
    leafIs('>', 32, 302);
    leafIs('>', 99, 302);
  }

  private static DuelSchema leafy() {
    DuelSchema x = new DuelSchema();
    x.table(1);
    for (int row = 0; row < 17; row++) {
      x.insert(0, 2 * row, 0, 0);
    }
    x.index(0, 0);
    x.frames(12);
    x.query();
    x.from(0, 0);
    return x;
  }

  /** No entry is wanted, so the duellist 0, who comes last, leaves the one leaf as the latest one. */
  private void leafIs(char sign, int value, int key) {
    DuelSchema x = leafy();
    x.where(0, 0, 0, sign, value);
    x.query();
    x.from(1, 0);
    x.round(1);
    x.round(0);
    check.due("P29 leaf of " + sign + " " + value, key, () -> x.cachedAt(0));
    check.due("P29 one read of " + sign + " " + value, 1, () -> x.reads(0, 0));
  }

  private void emptyIndex() {
    DuelSchema x = new DuelSchema();
    x.table(1);
    x.index(0, 0);
    x.query();
    x.from(0, 0);
    x.where(0, 0, 0, '=', 5);
    planIs(x, 0, "0", "c", 0);
    figuresAre(x, 0, 1, 0, 0);
    x.insert(0, 5, 0, 0);
    x.remove(0, 0);
    figuresAre(x, 0, 1, 0, 0);
    planIs(x, 1, "0", "f", -1);
    // The page stays though its row is gone.
    figuresAre(x, 1, 0, 1, 1);
  }

  /** A leaf is read once, though what is read between its entries has put it out of the cache. */
  private void innerReads() {
    DuelSchema x = new DuelSchema();
    x.table(1);
    x.table(1);
    for (int row = 0; row < 3; row++) {
      x.insert(0, 4, 0, 0);
    }
    for (int row = 0; row < 9; row++) {
      x.insert(1, row, 0, 0);
    }
    x.index(0, 0);
    x.frames(2);
    x.query();
    x.from(0, 0);
    x.from(0, 1);
    x.where(0, 0, 0, '=', 4);
    // A leaf, and three times a page and three pages of the other table.
    figuresAre(x, 0, 1, 13, 13);
    x.frames(3);
    figuresAre(x, 0, 1, 13, 13);
    x.frames(4);
    figuresAre(x, 0, 1, 13, 5);
    x.frames(0);
    figuresAre(x, 0, 1, 13, 13);
  }

  public static void main(String[] args) {
    Check check = new Check();
    PlansTest test = new PlansTest(check);
    test.wrongInputs();
    test.book();
    test.bookJoins();
    test.costs();
    test.likeCosts();
    test.orders();
    test.likeOrders();
    test.joinToldTwice();
    test.uncounted();
    test.leaves();
    test.emptyIndex();
    test.innerReads();
    check.end();
  }
}
