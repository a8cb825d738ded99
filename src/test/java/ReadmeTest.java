/** The example of README.md, with the answers that it tells. */
public final class ReadmeTest {
  public static void main(String[] args) {
    Check check = new Check();
    DuelSchema x = new DuelSchema();
    int people = x.table(2);
    x.insert(people, 1, 5, 0);
    x.insert(people, 2, 7, 0);
    int byFirst = x.index(people, 0);
    x.count(people);
    int query = x.query();
    x.from(query, people);
    x.where(query, 0, 0, '=', 1);
    check.due("P21 answers", 1, () -> x.answers(query));
    check.due("P22 the row", 0, () -> x.answerAt(query, 0, 0));
    check.due("P25 by the book", 'c', () -> x.way(0, query, 0));
    check.due("P26 by the book", byFirst, () -> x.usedIndex(0, query, 0));
    check.due("P25 by the counts", 'f', () -> x.way(1, query, 0));
    check.due("P31 the winner", 1, () -> x.round(query));
    check.due("P33 coins of the winner", 3, () -> x.coins(1));
    check.due("P30 coins left", 1, () -> x.ban(1, byFirst));
    check.due("P24 to 26 the index is banned", 'f', () -> x.way(0, query, 0));
    check.due("P32 the same winner", 1, () -> x.appeal(1));
    check.due("P33 the coin is lost", 2, () -> x.coins(1));
    check.end();
  }
}
