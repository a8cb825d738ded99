/** Promises 17 to 23: queries and their answers. */
public final class QueriesTest {
  private final Check check;

  private QueriesTest(Check check) {
    this.check = check;
  }

  /** Table 0: (1,5) (2,5) (3,7) (1,9), of which the row 1 is removed; table 1: 5, 7, 5. */
  private static DuelSchema small() {
    DuelSchema x = new DuelSchema();
    x.table(2);
    x.table(1);
    int[][] rows = {{1, 5}, {2, 5}, {3, 7}, {1, 9}};
    for (int[] row : rows) {
      x.insert(0, row[0], row[1], 0);
    }
    x.remove(0, 1);
    x.insert(1, 5, 0, 0);
    x.insert(1, 7, 0, 0);
    x.insert(1, 5, 0, 0);
    return x;
  }

  private void query() {
    DuelSchema x = small();
    for (int number = 0; number < 8; number++) {
      int due = number;
      check.due("P17 query " + number, due, x::query);
    }
    check.fails("P17 a ninth", Check.STATE, x::query);
    check.fails("P17 without positions", Check.UNSUPPORTED, () -> x.answers(7));
  }

  private void from() {
    DuelSchema x = small();
    x.query();
    check.fails("P18 no query", Check.INDEX, () -> x.from(1, 0));
    check.fails("P18 query -1", Check.INDEX, () -> x.from(-1, 0));
    check.fails("P18 no table", Check.INDEX, () -> x.from(0, 2));
    check.due("P18 first", 1, () -> x.from(0, 0));
    check.due("P18 the same table", 2, () -> x.from(0, 0));
    check.due("P18 third", 3, () -> x.from(0, 1));
    check.fails("P18 a fourth", Check.STATE, () -> x.from(0, 0));
    check.fails("P18 a fourth of no table", Check.INDEX, () -> x.from(0, 2));
  }

  private void where() {
    DuelSchema x = small();
    x.query();
    check.fails("P19 no position yet", Check.ARGUMENT, () -> x.where(0, 0, 0, '=', 1));
    x.from(0, 1);
    x.from(0, 0);
    check.fails("P19 no query", Check.INDEX, () -> x.where(1, 9, 9, '!', 100));
    check.fails("P19 no position", Check.ARGUMENT, () -> x.where(0, 2, 0, '=', 1));
    check.fails("P19 position -1", Check.ARGUMENT, () -> x.where(0, -1, 0, '=', 1));
    check.fails("P19 no column", Check.ARGUMENT, () -> x.where(0, 0, 1, '=', 1));
    check.fails("P19 column -1", Check.ARGUMENT, () -> x.where(0, 0, -1, '=', 1));
    check.fails("P19 no sign", Check.ARGUMENT, () -> x.where(0, 0, 0, '!', 1));
    check.fails("P19 value 100", Check.ARGUMENT, () -> x.where(0, 0, 0, '<', 100));
    check.fails("P19 value -1", Check.ARGUMENT, () -> x.where(0, 0, 0, '>', -1));
    check.due("P19 first", 1, () -> x.where(0, 1, 1, '=', 0));
    check.due("P19 second", 2, () -> x.where(0, 0, 0, '<', 99));
    check.due("P19 third", 3, () -> x.where(0, 0, 0, '>', 0));
    check.due("P19 told twice", 4, () -> x.where(0, 0, 0, '>', 0));
    check.fails("P19 a fifth", Check.STATE, () -> x.where(0, 0, 0, '>', 0));
    check.fails("P19 a wrong fifth", Check.ARGUMENT, () -> x.where(0, 0, 0, '>', 100));
  }

  private void join() {
    DuelSchema x = small();
    x.query();
    x.from(0, 0);
    check.fails("P20 no other position yet", Check.ARGUMENT, () -> x.join(0, 0, 0, 1, 0));
    x.from(0, 1);
    check.fails("P20 no query", Check.INDEX, () -> x.join(1, 0, 0, 0, 0));
    check.fails("P20 the same position", Check.ARGUMENT, () -> x.join(0, 0, 0, 0, 1));
    check.fails("P20 no column", Check.ARGUMENT, () -> x.join(0, 0, 2, 1, 0));
    check.fails("P20 no column of the other", Check.ARGUMENT, () -> x.join(0, 0, 0, 1, 1));
    check.fails("P20 column -1", Check.ARGUMENT, () -> x.join(0, 0, -1, 1, 0));
    check.fails("P20 its -1", Check.ARGUMENT, () -> x.join(0, 0, 0, 1, -1));
    check.fails("P20 position -1", Check.ARGUMENT, () -> x.join(0, -1, 0, 1, 0));
    check.fails("P20 other 2", Check.ARGUMENT, () -> x.join(0, 0, 0, 2, 0));
    check.due("P20 first", 1, () -> x.join(0, 0, 1, 1, 0));
    check.due("P20 told twice", 2, () -> x.join(0, 0, 1, 1, 0));
    check.due("P20 third, from the other side", 3, () -> x.join(0, 1, 0, 0, 1));
    check.fails("P20 a fourth", Check.STATE, () -> x.join(0, 0, 1, 1, 0));
    check.fails("P20 a wrong fourth", Check.ARGUMENT, () -> x.join(0, 0, 1, 0, 0));
  }

  private void answers() {
    DuelSchema x = small();
    x.query();
    check.fails("P21 no query", Check.INDEX, () -> x.answers(1));
    check.fails("P21 query -1", Check.INDEX, () -> x.answers(-1));
    check.fails("P21 no position", Check.UNSUPPORTED, () -> x.answers(0));
    check.fails("P22 no position", Check.ARGUMENT, () -> x.answerAt(0, 0, 0));
    check.fails("P23 no position", Check.ARGUMENT, () -> x.sum(0, 0, 0));
    x.from(0, 0);
    answersAre(x, new int[][] {{0}, {2}, {3}});
    x.from(0, 1);
    answersAre(x, new int[][] {{0, 0}, {0, 1}, {0, 2}, {2, 0}, {2, 1}, {2, 2}, {3, 0}, {3, 1}, {3, 2}});
    check.due("P23 sum of the position 0", 15L, () -> x.sum(0, 0, 0));
    check.due("P23 sum of its column 1", 63L, () -> x.sum(0, 0, 1));
    check.due("P23 sum of the position 1", 51L, () -> x.sum(0, 1, 0));
    x.join(0, 0, 1, 1, 0);
    answersAre(x, new int[][] {{0, 0}, {0, 2}, {2, 1}});
    check.due("P23 sum of a join", 5L, () -> x.sum(0, 0, 0));
    x.where(0, 0, 0, '<', 3);
    answersAre(x, new int[][] {{0, 0}, {0, 2}});
    x.where(0, 1, 0, '>', 4);
    answersAre(x, new int[][] {{0, 0}, {0, 2}});
    x.where(0, 1, 0, '>', 5);
    answersAre(x, new int[][] {});
    check.due("P23 sum of none", 0L, () -> x.sum(0, 0, 0));
    check.fails("P22 no query", Check.INDEX, () -> x.answerAt(1, 0, 0));
    check.fails("P22 position 2", Check.ARGUMENT, () -> x.answerAt(0, 0, 2));
    check.fails("P22 position -1", Check.ARGUMENT, () -> x.answerAt(0, 0, -1));
    check.fails("P23 no query", Check.INDEX, () -> x.sum(1, 0, 0));
    check.fails("P23 position 2", Check.ARGUMENT, () -> x.sum(0, 2, 0));
    check.fails("P23 column", Check.ARGUMENT, () -> x.sum(0, 1, 1));
    check.fails("P23 column -1", Check.ARGUMENT, () -> x.sum(0, 1, -1));
  }

  private void answersAre(DuelSchema x, int[][] rows) {
    check.due("P21 answers", rows.length, () -> x.answers(0));
    for (int place = 0; place < rows.length; place++) {
      for (int position = 0; position < rows[place].length; position++) {
        int at = place;
        int of = position;
        check.due("P22 answer " + at + ", " + of, rows[at][of], () -> x.answerAt(0, at, of));
      }
    }
    for (int wild : new int[] {-1, rows.length, Integer.MAX_VALUE, Integer.MIN_VALUE}) {
      check.fails("P22 place " + wild, Check.NONE, () -> x.answerAt(0, wild, 0));
    }
  }

  /** A table that is joined with itself, and a join of three that is told in other orders. */
  private void threePositions() {
    DuelSchema x = new DuelSchema();
    x.table(2);
    int[][] rows = {{1, 2}, {2, 3}, {3, 1}, {2, 2}};
    for (int[] row : rows) {
      x.insert(0, row[0], row[1], 0);
    }
    x.query();
    x.from(0, 0);
    x.from(0, 0);
    x.from(0, 0);
    check.due("P21 all of three", 64, () -> x.answers(0));
    check.due("P22 the last one but one", 2, () -> x.answerAt(0, 62, 2));
    check.due("P23 all of three", 16L * 8, () -> x.sum(0, 1, 1));
    x.join(0, 2, 0, 1, 1);
    x.join(0, 1, 0, 0, 1);
    answersAre(x, new int[][] {{0, 1, 2}, {0, 3, 1}, {0, 3, 3}, {1, 2, 0}, {2, 0, 1}, {2, 0, 3},
        {3, 1, 2}, {3, 3, 1}, {3, 3, 3}});
    x.join(0, 0, 0, 2, 1);
    answersAre(x, new int[][] {{0, 1, 2}, {1, 2, 0}, {2, 0, 1}, {3, 3, 3}});
  }

  public static void main(String[] args) {
    Check check = new Check();
    QueriesTest test = new QueriesTest(check);
    test.query();
    test.from();
    test.where();
    test.join();
    test.answers();
    test.threePositions();
    check.end();
  }
}
