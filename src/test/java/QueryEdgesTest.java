/** The edges that the document names for promises 17 to 23: queries, conditions, joins and their answers. */
public final class QueryEdgesTest {
  private final Check check;

  private QueryEdgesTest(Check check) {
    this.check = check;
  }

  /** A table of one column with a row for each value, and a query of it. */
  private static DuelSchema of(int... values) {
    DuelSchema x = new DuelSchema();
    x.table(1);
    for (int value : values) {
      x.insert(0, value, 0, 0);
    }
    x.query();
    x.from(0, 0);
    return x;
  }

  private void answersAre(String what, DuelSchema x, int... rows) {
    check.due(what + ", P21 answers", rows.length, () -> x.answers(0));
    for (int place = 0; place < rows.length; place++) {
      int p = place;
      check.due(what + ", P22 place " + p, rows[p], () -> x.answerAt(0, p, 0));
    }
    check.fails(what + ", P22 behind the last one", Check.NONE, () -> x.answerAt(0, rows.length, 0));
    check.fails(what + ", P22 ahead of the first one", Check.NONE, () -> x.answerAt(0, -1, 0));
  }

  private void promise17EightQueries() {
    DuelSchema x = of(1);
    for (int number = 1; number < 8; number++) {
      int n = number;
      check.fails("P17 not there yet", Check.INDEX, () -> x.answers(n));
      check.due("P17 query " + n, n, x::query);
      check.fails("P17 without positions", Check.UNSUPPORTED, () -> x.answers(n));
    }
    check.fails("P17 a ninth", Check.STATE, x::query);
    check.fails("P17 it is not there", Check.INDEX, () -> x.answers(8));
    check.due("P18 the last one takes a position", 1, () -> x.from(7, 0));
    check.due("P21 and has its answers", 1, () -> x.answers(7));
    check.due("P21 the first one keeps its own", 1, () -> x.answers(0));
  }

  private void promise18ThreePositions() {
    DuelSchema x = new DuelSchema();
    x.table(1);
    x.table(2);
    x.table(3);
    for (int query = 0; query < 8; query++) {
      int q = query;
      x.query();
      check.due("P18 one", 1, () -> x.from(q, 2));
      check.due("P18 two, like ones perhaps", 2, () -> x.from(q, q < 4 ? 2 : 0));
      check.fails("P23 the position 2 is not there yet", Check.ARGUMENT, () -> x.sum(q, 2, 0));
      check.due("P18 three", 3, () -> x.from(q, q < 4 ? 2 : 1));
      check.fails("P18 a fourth", Check.STATE, () -> x.from(q, 0));
      check.due("P23 the position 2 is there", 0L, () -> x.sum(q, 2, 1));
      check.fails("P23 the position 3 is not", Check.ARGUMENT, () -> x.sum(q, 3, 0));
    }
    check.due("P23 the columns are those of the table of the position", 0L, () -> x.sum(0, 1, 2));
    check.fails("P23 the columns are those of the table of the position", Check.ARGUMENT, () -> x.sum(4, 1, 1));
  }

  private void promise19FourConditions() {
    for (char sign : "=<>".toCharArray()) {
      DuelSchema x = of(0, 50, 99);
      x.from(0, 0);
      x.query();
      x.from(1, 0);
      for (int number = 1; number <= 4; number++) {
        int n = number;
        check.due("P19 condition " + n, n, () -> x.where(0, n % 2, 0, sign, n < 3 ? 0 : 99));
      }
      check.fails("P19 a fifth of the position 0", Check.STATE, () -> x.where(0, 0, 0, sign, 50));
      check.fails("P19 a fifth of the position 1", Check.STATE, () -> x.where(0, 1, 0, sign, 50));
      check.due("P19 another query has its own", 1, () -> x.where(1, 0, 0, sign, 50));
    }
  }

  private void promise19LastColumnOfEachPosition() {
    DuelSchema x = new DuelSchema();
    for (int columns = 1; columns <= 3; columns++) {
      x.table(columns);
      x.insert(columns - 1, 10, 20, 30);
    }
    for (int position = 0; position < 3; position++) {
      int p = position;
      x.query();
      for (int table = 0; table < 3; table++) {
        x.from(p, table);
      }
      check.fails("P19 behind the last column of " + p, Check.ARGUMENT, () -> x.where(p, p, p + 1, '=', 1));
      check.due("P19 the last column of " + p, 1, () -> x.where(p, p, p, '=', 10 * (p + 1)));
      check.due("P21 it holds", 1, () -> x.answers(p));
      check.due("P19 another value", 2, () -> x.where(p, p, p, '=', 10 * (p + 1) + 1));
      check.due("P21 it does not hold", 0, () -> x.answers(p));
    }
  }

  private void where(String what, char sign, int value, int... rows) {
    DuelSchema x = of(0, 1, 49, 50, 51, 98, 99);
    x.where(0, 0, 0, sign, value);
    answersAre("P21 " + what + " " + sign + value, x, rows);
  }

  private void promise19And21SignsAtTheirValues() {
    where("the value itself", '=', 50, 3);
    where("the least one", '=', 0, 0);
    where("the greatest one", '=', 99, 6);
    where("one that no row has", '=', 2);
    where("less, and not alike", '<', 50, 0, 1, 2);
    where("one more", '<', 51, 0, 1, 2, 3);
    where("none is less", '<', 0);
    where("the least one alone", '<', 1, 0);
    where("all but the greatest one", '<', 99, 0, 1, 2, 3, 4, 5);
    where("more, and not alike", '>', 50, 4, 5, 6);
    where("one less", '>', 49, 3, 4, 5, 6);
    where("none is greater", '>', 99);
    where("the greatest one alone", '>', 98, 6);
    where("all but the least one", '>', 0, 1, 2, 3, 4, 5, 6);
    DuelSchema x = of(10, 11, 12, 13);
    x.where(0, 0, 0, '>', 10);
    x.where(0, 0, 0, '<', 13);
    answersAre("P21 both hold", x, 1, 2);
    x.where(0, 0, 0, '>', 11);
    x.where(0, 0, 0, '<', 12);
    answersAre("P21 all four never hold", x);
  }

  private void promise20ThreeJoins() {
    int[][] pairs = {{0, 1}, {1, 0}, {0, 2}, {2, 0}, {1, 2}, {2, 1}};
    for (int[] pair : pairs) {
      DuelSchema x = of(3, 4);
      x.from(0, 0);
      check.fails("P20 the position 2 is not there yet", Check.ARGUMENT, () -> x.join(0, 2, 0, 0, 0));
      x.from(0, 0);
      x.query();
      x.from(1, 0);
      x.from(1, 0);
      for (int number = 1; number <= 3; number++) {
        check.due("P20 join", number, () -> x.join(0, pair[0], 0, pair[1], 0));
      }
      check.fails("P20 a fourth", Check.STATE, () -> x.join(0, pair[0], 0, pair[1], 0));
      check.fails("P20 a fourth of others", Check.STATE, () -> x.join(0, pair[1], 0, 3 - pair[0] - pair[1], 0));
      check.due("P20 another query has its own", 1, () -> x.join(1, 1, 0, 0, 0));
      check.due("P21 told three times, it holds all the same", 4, () -> x.answers(0));
      check.due("P21 the first one of two", 2, () -> x.answers(1));
    }
  }

  private void promise20LastColumns() {
    DuelSchema x = new DuelSchema();
    x.table(3);
    x.table(2);
    x.insert(0, 1, 2, 3);
    x.insert(0, 4, 5, 3);
    x.insert(1, 9, 3, 0);
    x.query();
    x.from(0, 0);
    x.from(0, 1);
    check.fails("P20 behind the last column", Check.ARGUMENT, () -> x.join(0, 0, 3, 1, 1));
    check.fails("P20 behind its last column", Check.ARGUMENT, () -> x.join(0, 0, 2, 1, 2));
    check.due("P20 the last columns of both", 1, () -> x.join(0, 0, 2, 1, 1));
    check.due("P21 both rows have a like one", 2, () -> x.answers(0));
    check.due("P20 the first columns of both", 2, () -> x.join(0, 1, 0, 0, 0));
    check.due("P21 no row has a like one in both", 0, () -> x.answers(0));
  }

  private void promise21EmptyAndOne() {
    DuelSchema x = of();
    answersAre("P21 no rows", x);
    check.due("P23 no rows", 0L, () -> x.sum(0, 0, 0));
    x.table(1);
    x.insert(1, 7, 0, 0);
    x.from(0, 1);
    answersAre("P21 no rows of the position 0", x);
    x.insert(0, 9, 0, 0);
    answersAre("P21 a row of each", x, 0);
    check.due("P23 of the position 0", 9L, () -> x.sum(0, 0, 0));
    check.due("P23 of the position 1", 7L, () -> x.sum(0, 1, 0));
    x.remove(1, 0);
    answersAre("P21 no row of the last position is left", x);
    check.due("P23 none", 0L, () -> x.sum(0, 1, 0));
    DuelSchema y = of(5, 5, 5);
    y.remove(0, 1);
    answersAre("P21 the removed one not", y, 0, 2);
  }

  private void promise21To23FullOfThree() {
    DuelSchema x = of();
    for (int row = 0; row < 40; row++) {
      x.insert(0, 99, 0, 0);
    }
    x.from(0, 0);
    x.from(0, 0);
    check.due("P21 40 times 40 times 40", 64000, () -> x.answers(0));
    check.due("P23 as many times 99", 6336000L, () -> x.sum(0, 2, 0));
    int[][] due = {{0, 0, 0, 0}, {1, 0, 0, 1}, {39, 0, 0, 39}, {40, 0, 1, 0}, {1599, 0, 39, 39},
        {1600, 1, 0, 0}, {63999, 39, 39, 39}};
    for (int[] answer : due) {
      for (int position = 0; position < 3; position++) {
        int p = position;
        check.due("P22 the position 0 first, place " + answer[0], answer[p + 1],
            () -> x.answerAt(0, answer[0], p));
      }
    }
    check.fails("P22 behind the last one", Check.NONE, () -> x.answerAt(0, 64000, 0));
    x.join(0, 0, 0, 1, 0);
    x.join(0, 1, 0, 2, 0);
    check.due("P21 with joins that hold for all", 64000, () -> x.answers(0));
    x.where(0, 1, 0, '<', 99);
    check.due("P21 with a condition that holds for none", 0, () -> x.answers(0));
  }

  private void promise22InOrderOfRowsThoughPlansAreOtherwise() {
    DuelSchema x = of(8, 3, 8, 1);
    x.index(0, 0);
    x.count(0);
    x.where(0, 0, 0, '>', 1);
    check.due("P25 the plan goes by values", 'c', () -> x.way(0, 0, 0));
    answersAre("P22 by rows, and not by values", x, 0, 1, 2);
  }

  private void promise23SumsOfEachColumn() {
    DuelSchema x = new DuelSchema();
    x.table(3);
    x.insert(0, 0, 50, 99);
    x.insert(0, 1, 49, 99);
    x.insert(0, 2, 48, 99);
    x.query();
    x.from(0, 0);
    x.from(0, 0);
    x.where(0, 0, 0, '>', 0);
    long[][] due = {{9, 291, 594}, {6, 294, 594}};
    for (int position = 0; position < 2; position++) {
      for (int column = 0; column < 3; column++) {
        int p = position;
        int c = column;
        check.due("P23 position " + p + ", column " + c, due[p][c], () -> x.sum(0, p, c));
      }
    }
    check.fails("P23 behind the last column", Check.ARGUMENT, () -> x.sum(0, 1, 3));
    check.fails("P23 behind the last position", Check.ARGUMENT, () -> x.sum(0, 2, 0));
  }

  public static void main(String[] args) {
    Check check = new Check();
    QueryEdgesTest test = new QueryEdgesTest(check);
    test.promise17EightQueries();
    test.promise18ThreePositions();
    test.promise19FourConditions();
    test.promise19LastColumnOfEachPosition();
    test.promise19And21SignsAtTheirValues();
    test.promise20ThreeJoins();
    test.promise20LastColumns();
    test.promise21EmptyAndOne();
    test.promise21To23FullOfThree();
    test.promise22InOrderOfRowsThoughPlansAreOtherwise();
    test.promise23SumsOfEachColumn();
    check.end();
  }
}
