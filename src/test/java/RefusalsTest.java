/**
 * Each call that is refused, of promises 2 to 39, with the exception that is documented first where several
 * apply, and with nothing changed by it; and each call that only asks, with nothing changed either.
 */
public final class RefusalsTest {
  private static final int LEAST = Integer.MIN_VALUE;
  private static final int GREATEST = Integer.MAX_VALUE;
  private static final int[] NO_DUELLISTS = {-1, 2, LEAST, GREATEST};
  // In few() there are 2 tables, 3 indexes and 3 queries; 1 << 30 and its like wrap round as they are multiplied.
  private static final int[] NO_TABLES = {-1, 2, 3, 1 << 30, LEAST, GREATEST};
  private static final int[] NO_INDEXES = {-1, 3, 6, 32, 35, LEAST, GREATEST};
  private static final int[] NO_QUERIES = {-1, 3, 8, 1 << 30, LEAST, GREATEST};

  private final Twins twins;

  private RefusalsTest(Check check) {
    twins = new Twins(check);
  }

  private static void nothing(DuelSchema x) {
  }

  /**
   * Tables of 2 columns and 1, with 9 rows of which the row 3 is removed, and 5; an index on each column; a
   * query of both tables, one of the table 0, and one without positions; rounds, of which the last one is
   * open to appeals; coins of both; a ban of the index 0 by the duellist 0, and of the index 2 by the other.
   */
  private static void few(DuelSchema x) {
    x.table(2);
    x.table(1);
    for (int row = 0; row < 9; row++) {
      x.insert(0, 10 + row % 3, 20 + row, 0);
    }
    for (int row = 0; row < 5; row++) {
      x.insert(1, 20 + row, 0, 0);
    }
    x.remove(0, 3);
    x.bound(0, 0, 5, 60);
    x.index(0, 0);
    x.index(0, 1);
    x.index(1, 0);
    x.count(0);
    x.query();
    x.query();
    x.query();
    x.from(0, 0);
    x.from(0, 1);
    x.join(0, 0, 1, 1, 0);
    x.where(0, 0, 0, '<', 12);
    x.from(1, 0);
    x.where(1, 0, 0, '=', 11);
    x.frames(5);
    for (int round = 0; round < 5; round++) {
      x.round(round % 2);
    }
    x.ban(0, 0);
    x.ban(1, 2);
  }

  /** Three tables, of which the table 0 is full; six indexes; eight queries, of which the query 0 is full. */
  private static void full(DuelSchema x) {
    x.table(3);
    x.table(1);
    x.table(2);
    for (int row = 0; row < 40; row++) {
      x.insert(0, 10 + row, 50 - row, row % 2);
    }
    x.insert(1, 7, 0, 0);
    x.remove(0, 39);
    for (int index = 0; index < 6; index++) {
      x.index(index < 3 ? 0 : index < 4 ? 1 : 2, index % 3 % (index < 3 ? 3 : index < 4 ? 1 : 2));
    }
    for (int query = 0; query < 8; query++) {
      x.query();
    }
    x.from(0, 0);
    x.from(0, 1);
    x.from(0, 0);
    for (int again = 0; again < 4; again++) {
      x.where(0, 0, 0, '<', 13);
    }
    x.join(0, 0, 1, 2, 1);
    x.join(0, 0, 1, 2, 1);
    x.join(0, 1, 0, 2, 0);
    x.frames(12);
    x.round(0);
  }

  private void byFew(String call, Class<? extends RuntimeException> want, Twins.Asking asked) {
    twins.refused(call, want, RefusalsTest::few, asked);
  }

  private void byFull(String call, Class<? extends RuntimeException> want, Twins.Asking asked) {
    twins.refused(call, want, RefusalsTest::full, asked);
  }

  private void byNew(String call, Class<? extends RuntimeException> want, Twins.Asking asked) {
    twins.refused(call, want, RefusalsTest::nothing, asked);
  }

  /** That few() and full() are what the places and the coins of the refused calls below take them for. */
  private void whatIsRefusedOn(Check check) {
    DuelSchema x = new DuelSchema();
    few(x);
    check.due("few: pages and leaves in the cache", 5, x::cached);
    check.due("few: both have coins for a ban more", true, () -> x.coins(0) >= 2 && x.coins(1) >= 2);
    check.due("few: a ban is free for the duellist 0", true, () -> x.ban(0, 1) >= 0);
    check.due("few: rounds", 5, x::rounds);
    check.due("few: an appeal is open", true, () -> x.appeal(1) >= -1);
    DuelSchema y = new DuelSchema();
    full(y);
    check.due("full: pages and leaves in the cache", 12, y::cached);
    check.due("full: entries", 39, () -> y.entries(2));
  }

  private void promise2Table() {
    for (int columns : new int[] {0, 4, -1, LEAST, GREATEST}) {
      byNew("P2 table(" + columns + ") is out of range", Check.ARGUMENT, x -> x.table(columns));
      byFew("P2 table(" + columns + ") is out of range", Check.ARGUMENT, x -> x.table(columns));
      byFull("P2 table(" + columns + ") is out of range ahead of full", Check.ARGUMENT, x -> x.table(columns));
    }
    for (int columns = 1; columns <= 3; columns++) {
      int c = columns;
      byFull("P2 table(" + c + ") where 3 are", Check.STATE, x -> x.table(c));
    }
  }

  private void promise3Bound() {
    byNew("P3 no table yet", Check.INDEX, x -> x.bound(0, 0, 0, 99));
    for (int table : NO_TABLES) {
      byFew("P3 table " + table, Check.INDEX, x -> x.bound(table, 0, 0, 99));
      byFew("P3 table " + table + " ahead of all", Check.INDEX, x -> x.bound(table, 9, 100, -1));
    }
    for (int column : new int[] {-1, 2, 3, 1 << 30, LEAST, GREATEST}) {
      byFew("P3 column " + column, Check.ARGUMENT, x -> x.bound(0, column, 0, 99));
    }
    byFew("P3 column 1 of one", Check.ARGUMENT, x -> x.bound(1, 1, 0, 99));
    byFull("P3 column 3 of three", Check.ARGUMENT, x -> x.bound(0, 3, 0, 99));
    int[][] wrong = {{-1, 99}, {0, 100}, {-1, -1}, {100, 100}, {99, 100}, {-1, 0}, {1, 0}, {99, 98}, {99, 0},
        {51, 50}, {LEAST, 50}, {50, GREATEST}, {GREATEST, LEAST}};
    for (int[] bounds : wrong) {
      byFew("P3 bounds " + bounds[0] + ", " + bounds[1], Check.ARGUMENT,
          x -> x.bound(0, 1, bounds[0], bounds[1]));
    }
  }

  private void promise4Insert() {
    byNew("P4 no table yet", Check.INDEX, x -> x.insert(0, 5, 5, 5));
    for (int table : NO_TABLES) {
      byFew("P4 table " + table, Check.INDEX, x -> x.insert(table, 10, 20, 0));
      byFew("P4 table " + table + " ahead of all", Check.INDEX, x -> x.insert(table, -1, 100, -1));
    }
    for (int value : new int[] {4, 61, -1, 100, LEAST, GREATEST}) {
      byFew("P4 one " + value + " beyond 5 to 60", Check.ARGUMENT, x -> x.insert(0, value, 20, 0));
    }
    for (int value : new int[] {-1, 100, LEAST, GREATEST}) {
      byFew("P4 one " + value, Check.ARGUMENT, x -> x.insert(1, value, 5, 5));
      byFew("P4 two " + value, Check.ARGUMENT, x -> x.insert(0, 10, value, 0));
      byFull("P4 one " + value + " ahead of full", Check.ARGUMENT, x -> x.insert(0, value, 0, 0));
      byFull("P4 two " + value + " ahead of full", Check.ARGUMENT, x -> x.insert(0, 0, value, 0));
      byFull("P4 three " + value + " ahead of full", Check.ARGUMENT, x -> x.insert(0, 0, 0, value));
    }
    byFull("P4 a 41st, though one is removed", Check.STATE, x -> x.insert(0, 10, 50, 0));
  }

  private void promise5Remove() {
    byNew("P5 no table yet", Check.INDEX, x -> x.remove(0, 0));
    for (int table : NO_TABLES) {
      byFew("P5 table " + table, Check.INDEX, x -> x.remove(table, 0));
      byFew("P5 table " + table + " ahead of the row", Check.INDEX, x -> x.remove(table, -1));
    }
    for (int row : new int[] {-1, 3, 9, 40, 1 << 30, LEAST, GREATEST}) {
      byFew("P5 row " + row, Check.NONE, x -> x.remove(0, row));
    }
    byFew("P5 row 5 of five", Check.NONE, x -> x.remove(1, 5));
    for (int row : new int[] {-1, 39, 40}) {
      byFull("P5 row " + row + " of 40", Check.NONE, x -> x.remove(0, row));
    }
    byFull("P5 of none", Check.NONE, x -> x.remove(2, 0));
  }

  private void promise6Count() {
    byNew("P6 no table yet", Check.INDEX, x -> x.count(0));
    for (int table : NO_TABLES) {
      byFew("P6 table " + table, Check.INDEX, x -> x.count(table));
    }
    byFull("P6 table 3 of three", Check.INDEX, x -> x.count(3));
  }

  private void promise7Index() {
    byNew("P7 no table yet", Check.INDEX, x -> x.index(0, 0));
    for (int table : NO_TABLES) {
      byFew("P7 table " + table, Check.INDEX, x -> x.index(table, 0));
      byFew("P7 table " + table + " ahead of the column", Check.INDEX, x -> x.index(table, -1));
    }
    for (int column : new int[] {-1, 2, 3, LEAST, GREATEST}) {
      byFew("P7 column " + column, Check.ARGUMENT, x -> x.index(0, column));
    }
    byFew("P7 column 1 of one", Check.ARGUMENT, x -> x.index(1, 1));
    byFull("P7 table 3 ahead of full", Check.INDEX, x -> x.index(3, 0));
    byFull("P7 column 3 ahead of full", Check.ARGUMENT, x -> x.index(0, 3));
    byFull("P7 a seventh", Check.STATE, x -> x.index(0, 0));
    byFull("P7 a seventh of another table", Check.STATE, x -> x.index(2, 1));
  }

  private void promise8Frames() {
    for (int frames : new int[] {-1, 13, LEAST, GREATEST}) {
      byNew("P8 frames(" + frames + ")", Check.ARGUMENT, x -> x.frames(frames));
      byFew("P8 frames(" + frames + ")", Check.ARGUMENT, x -> x.frames(frames));
      byFull("P8 frames(" + frames + ")", Check.ARGUMENT, x -> x.frames(frames));
    }
  }

  private void promise9And10PagesAndValue() {
    byNew("P9 no table yet", Check.INDEX, x -> x.pages(0));
    byNew("P10 no table yet", Check.INDEX, x -> x.value(0, 0, 0));
    for (int table : NO_TABLES) {
      byFew("P9 table " + table, Check.INDEX, x -> x.pages(table));
      byFew("P10 table " + table, Check.INDEX, x -> x.value(table, 0, 0));
      byFew("P10 table " + table + " ahead of all", Check.INDEX, x -> x.value(table, -1, -1));
    }
    for (int column : new int[] {-1, 2, 3, LEAST, GREATEST}) {
      byFew("P10 column " + column, Check.ARGUMENT, x -> x.value(0, 0, column));
      byFew("P10 column " + column + " ahead of the row", Check.ARGUMENT, x -> x.value(0, 9, column));
    }
    byFew("P10 column 1 of one", Check.ARGUMENT, x -> x.value(1, 0, 1));
    for (int row : new int[] {-1, 3, 9, 40, LEAST, GREATEST}) {
      byFew("P10 row " + row, Check.NONE, x -> x.value(0, row, 1));
    }
    for (int row : new int[] {-1, 39, 40}) {
      byFull("P10 row " + row + " of 40", Check.NONE, x -> x.value(0, row, 2));
    }
  }

  private void promise11And12Entries() {
    byNew("P11 no index yet", Check.INDEX, x -> x.entries(0));
    byNew("P12 no index yet", Check.INDEX, x -> x.entryAt(0, 0));
    for (int index : NO_INDEXES) {
      byFew("P11 index " + index, Check.INDEX, x -> x.entries(index));
      byFew("P12 index " + index, Check.INDEX, x -> x.entryAt(index, 0));
      byFew("P12 index " + index + " ahead of the place", Check.INDEX, x -> x.entryAt(index, -1));
    }
    byFull("P11 index 6 of six", Check.INDEX, x -> x.entries(6));
    for (int place : new int[] {-1, 8, 9, 40, LEAST, GREATEST}) {
      byFew("P12 place " + place + " of eight", Check.NONE, x -> x.entryAt(0, place));
    }
    for (int place : new int[] {-1, 39, 40}) {
      byFull("P12 place " + place + " of 39", Check.NONE, x -> x.entryAt(0, place));
    }
    byFull("P12 of none", Check.NONE, x -> x.entryAt(5, 0));
  }

  private void promise13Counted() {
    byNew("P13 no table yet", Check.INDEX, x -> x.counted(0, 0, 'r'));
    for (int table : NO_TABLES) {
      byFew("P13 table " + table, Check.INDEX, x -> x.counted(table, 0, 'r'));
      byFew("P13 table " + table + " ahead of all", Check.INDEX, x -> x.counted(table, -1, 'x'));
    }
    for (int column : new int[] {-1, 2, 3, LEAST, GREATEST}) {
      for (char what : "rpulgx".toCharArray()) {
        byFew("P13 column " + column + ", " + what, Check.ARGUMENT, x -> x.counted(0, column, what));
      }
    }
    byFew("P13 column 1 of one", Check.ARGUMENT, x -> x.counted(1, 1, 'r'));
    char[] none = {'q', 's', 'o', 't', 'v', 'k', 'm', 'f', 'h', 'R', ' ', 0, 'r' + 256, 'u' + 256, 65535};
    for (char what : none) {
      byFew("P13 count " + (int) what, Check.ARGUMENT, x -> x.counted(0, 0, what));
    }
  }

  private void promise15CachedAt() {
    byNew("P15 of none", Check.NONE, x -> x.cachedAt(0));
    for (int place : new int[] {-1, 5, 6, 12, LEAST, GREATEST}) {
      byFew("P15 place " + place + " of five", Check.NONE, x -> x.cachedAt(place));
    }
    for (int place : new int[] {-1, 12, 13}) {
      byFull("P15 place " + place + " of twelve", Check.NONE, x -> x.cachedAt(place));
    }
  }

  private void promise17And18QueryAndFrom() {
    byFull("P17 a ninth", Check.STATE, DuelSchema::query);
    byNew("P18 no query yet", Check.INDEX, x -> x.from(0, 0));
    for (int query : NO_QUERIES) {
      byFew("P18 query " + query, Check.INDEX, x -> x.from(query, 0));
    }
    for (int table : NO_TABLES) {
      byFew("P18 table " + table, Check.INDEX, x -> x.from(2, table));
    }
    byFull("P18 a fourth", Check.STATE, x -> x.from(0, 0));
    byFull("P18 a fourth of table 3", Check.INDEX, x -> x.from(0, 3));
    byFull("P18 a fourth of table -1", Check.INDEX, x -> x.from(0, -1));
    byFull("P18 query 8 of eight", Check.INDEX, x -> x.from(8, 0));
  }

  private void promise19Where() {
    byNew("P19 no query yet", Check.INDEX, x -> x.where(0, 0, 0, '=', 0));
    for (int query : NO_QUERIES) {
      byFew("P19 query " + query, Check.INDEX, x -> x.where(query, 0, 0, '=', 0));
      byFew("P19 query " + query + " ahead of all", Check.INDEX, x -> x.where(query, 9, 9, '!', 100));
    }
    byFew("P19 a query without positions", Check.ARGUMENT, x -> x.where(2, 0, 0, '=', 0));
    for (int position : new int[] {-1, 2, 3, LEAST, GREATEST}) {
      byFew("P19 position " + position, Check.ARGUMENT, x -> x.where(0, position, 0, '=', 0));
    }
    for (int column : new int[] {-1, 2, 3, LEAST, GREATEST}) {
      byFew("P19 column " + column, Check.ARGUMENT, x -> x.where(0, 0, column, '=', 0));
    }
    byFew("P19 column 1 of one", Check.ARGUMENT, x -> x.where(0, 1, 1, '=', 0));
    for (char sign : new char[] {'!', ';', '?', '#', 0, '=' + 256, '<' + 256, '>' + 256, 65535}) {
      byFew("P19 sign " + (int) sign, Check.ARGUMENT, x -> x.where(0, 0, 0, sign, 0));
    }
    for (int value : new int[] {-1, 100, LEAST, GREATEST}) {
      for (char sign : "=<>".toCharArray()) {
        byFew("P19 " + sign + value, Check.ARGUMENT, x -> x.where(0, 0, 0, sign, value));
      }
      byFull("P19 value " + value + " ahead of full", Check.ARGUMENT, x -> x.where(0, 0, 0, '=', value));
    }
    byFull("P19 position 3 ahead of full", Check.ARGUMENT, x -> x.where(0, 3, 0, '=', 0));
    byFull("P19 column 3 ahead of full", Check.ARGUMENT, x -> x.where(0, 0, 3, '=', 0));
    byFull("P19 no sign ahead of full", Check.ARGUMENT, x -> x.where(0, 0, 0, '!', 0));
    byFull("P19 a fifth", Check.STATE, x -> x.where(0, 2, 2, '>', 99));
  }

  private void promise20Join() {
    byNew("P20 no query yet", Check.INDEX, x -> x.join(0, 0, 0, 1, 0));
    for (int query : NO_QUERIES) {
      byFew("P20 query " + query, Check.INDEX, x -> x.join(query, 0, 0, 1, 0));
      byFew("P20 query " + query + " ahead of all", Check.INDEX, x -> x.join(query, 9, 9, 9, 9));
    }
    byFew("P20 a query without positions", Check.ARGUMENT, x -> x.join(2, 0, 0, 1, 0));
    byFew("P20 a query of one position", Check.ARGUMENT, x -> x.join(1, 0, 0, 1, 0));
    for (int wrong : new int[] {-1, 2, 3, LEAST, GREATEST}) {
      byFew("P20 position " + wrong, Check.ARGUMENT, x -> x.join(0, wrong, 0, 1, 0));
      byFew("P20 other " + wrong, Check.ARGUMENT, x -> x.join(0, 0, 0, wrong, 0));
      byFew("P20 both " + wrong, Check.ARGUMENT, x -> x.join(0, wrong, 0, wrong, 0));
      byFew("P20 column " + wrong, Check.ARGUMENT, x -> x.join(0, 0, wrong, 1, 0));
      byFew("P20 its " + wrong, Check.ARGUMENT, x -> x.join(0, 1, 0, 0, wrong));
    }
    byFew("P20 column 1 of one", Check.ARGUMENT, x -> x.join(0, 1, 1, 0, 0));
    byFew("P20 its 1 of one", Check.ARGUMENT, x -> x.join(0, 0, 0, 1, 1));
    for (int position = 0; position < 2; position++) {
      int same = position;
      byFew("P20 the same position, the same column", Check.ARGUMENT, x -> x.join(0, same, 0, same, 0));
    }
    byFew("P20 the same position, another column", Check.ARGUMENT, x -> x.join(0, 0, 0, 0, 1));
    byFull("P20 position 3 ahead of full", Check.ARGUMENT, x -> x.join(0, 3, 0, 0, 0));
    byFull("P20 its 3 ahead of full", Check.ARGUMENT, x -> x.join(0, 1, 0, 0, 3));
    byFull("P20 the same position ahead of full", Check.ARGUMENT, x -> x.join(0, 1, 0, 1, 0));
    byFull("P20 a fourth", Check.STATE, x -> x.join(0, 0, 1, 1, 0));
  }

  private void promise21To23Answers() {
    byNew("P21 no query yet", Check.INDEX, x -> x.answers(0));
    byFew("P21 a query without positions", Check.UNSUPPORTED, x -> x.answers(2));
    byFew("P22 a query without positions", Check.ARGUMENT, x -> x.answerAt(2, 0, 0));
    byFew("P23 a query without positions", Check.ARGUMENT, x -> x.sum(2, 0, 0));
    for (int query : NO_QUERIES) {
      byFew("P21 query " + query, Check.INDEX, x -> x.answers(query));
      byFew("P22 query " + query + " ahead of all", Check.INDEX, x -> x.answerAt(query, -1, 9));
      byFew("P23 query " + query + " ahead of all", Check.INDEX, x -> x.sum(query, 9, 9));
    }
    for (int position : new int[] {-1, 2, 3, LEAST, GREATEST}) {
      byFew("P22 position " + position, Check.ARGUMENT, x -> x.answerAt(0, 0, position));
      byFew("P22 position " + position + " ahead of the place", Check.ARGUMENT,
          x -> x.answerAt(0, -1, position));
      byFew("P23 position " + position, Check.ARGUMENT, x -> x.sum(0, position, 0));
      byFew("P23 column " + position, Check.ARGUMENT, x -> x.sum(0, 0, position));
    }
    byFew("P23 column 1 of one", Check.ARGUMENT, x -> x.sum(0, 1, 1));
    // The rows 1, 4 and 7 hold 11 in their column 0.
    for (int place : new int[] {-1, 3, 4, LEAST, GREATEST}) {
      byFew("P22 place " + place + " of three", Check.NONE, x -> x.answerAt(1, place, 0));
    }
  }

  private void promise24To26Places() {
    byNew("P24 no query yet", Check.INDEX, x -> x.planned(0, 0, 0));
    byNew("P25 no query yet", Check.INDEX, x -> x.way(1, 0, 0));
    byNew("P26 no query yet", Check.INDEX, x -> x.usedIndex(0, 0, 0));
    for (int duellist : NO_DUELLISTS) {
      byFew("P24 duellist " + duellist + " ahead of all", Check.ARGUMENT, x -> x.planned(duellist, 3, -1));
      byFew("P25 duellist " + duellist + " ahead of all", Check.ARGUMENT, x -> x.way(duellist, 3, -1));
      byFew("P26 duellist " + duellist + " ahead of all", Check.ARGUMENT, x -> x.usedIndex(duellist, 3, -1));
    }
    for (int query : NO_QUERIES) {
      byFew("P24 query " + query + " ahead of the place", Check.INDEX, x -> x.planned(1, query, -1));
      byFew("P25 query " + query + " ahead of the place", Check.INDEX, x -> x.way(0, query, -1));
      byFew("P26 query " + query + " ahead of the place", Check.INDEX, x -> x.usedIndex(1, query, -1));
    }
    for (int place : new int[] {-1, 2, 3, 1 << 30, LEAST, GREATEST}) {
      for (int duellist = 0; duellist < 2; duellist++) {
        int d = duellist;
        byFew("P24 place " + place + " of two", Check.NONE, x -> x.planned(d, 0, place));
        byFew("P25 place " + place + " of two", Check.NONE, x -> x.way(d, 0, place));
        byFew("P26 place " + place + " of two", Check.NONE, x -> x.usedIndex(d, 0, place));
      }
    }
    byFew("P24 of no place", Check.NONE, x -> x.planned(1, 2, 0));
    byFew("P25 of no place", Check.NONE, x -> x.way(0, 2, 0));
    byFew("P26 of no place", Check.NONE, x -> x.usedIndex(1, 2, 0));
    byFull("P24 place 3 of three", Check.NONE, x -> x.planned(1, 0, 3));
  }

  private void promise27To29And38Figures() {
    byNew("P27 no query yet", Check.INDEX, x -> x.estimate(0, 0));
    for (int duellist : NO_DUELLISTS) {
      byFew("P27 duellist " + duellist + " ahead of all", Check.ARGUMENT, x -> x.estimate(duellist, 3));
      byFew("P28 duellist " + duellist + " ahead of all", Check.ARGUMENT, x -> x.cold(duellist, 3));
      byFew("P29 duellist " + duellist + " ahead of all", Check.ARGUMENT, x -> x.reads(duellist, 3));
      byFew("P38 duellist " + duellist + " ahead of all", Check.ARGUMENT, x -> x.hitShare(duellist, 3));
      byFew("P27 duellist " + duellist + " ahead of no position", Check.ARGUMENT,
          x -> x.estimate(duellist, 2));
    }
    for (int query : NO_QUERIES) {
      byFew("P27 query " + query, Check.INDEX, x -> x.estimate(1, query));
      byFew("P28 query " + query, Check.INDEX, x -> x.cold(0, query));
      byFew("P29 query " + query, Check.INDEX, x -> x.reads(1, query));
      byFew("P38 query " + query, Check.INDEX, x -> x.hitShare(0, query));
    }
    for (int duellist = 0; duellist < 2; duellist++) {
      int d = duellist;
      byFew("P27 no position", Check.UNSUPPORTED, x -> x.estimate(d, 2));
      byFew("P28 no position", Check.UNSUPPORTED, x -> x.cold(d, 2));
      byFew("P29 no position", Check.UNSUPPORTED, x -> x.reads(d, 2));
      byFew("P38 no position", Check.UNSUPPORTED, x -> x.hitShare(d, 2));
      twins.refused("P38 nothing is read", Check.ARITHMETIC, x -> {
        few(x);
        x.table(1);
        x.from(2, 2);
      }, x -> x.hitShare(d, 2));
    }
  }

  private void promise30Ban() {
    byNew("P30 no index yet", Check.INDEX, x -> x.ban(0, 0));
    for (int duellist : NO_DUELLISTS) {
      byFew("P30 duellist " + duellist, Check.ARGUMENT, x -> x.ban(duellist, 1));
      byFew("P30 duellist " + duellist + " ahead of all", Check.ARGUMENT, x -> x.ban(duellist, -1));
    }
    for (int index : NO_INDEXES) {
      byFew("P30 index " + index, Check.INDEX, x -> x.ban(0, index));
      byFew("P30 index " + index, Check.INDEX, x -> x.ban(1, index));
    }
    byFull("P30 index 6 of six", Check.INDEX, x -> x.ban(0, 6));
    byFew("P30 banned so already by 0", Check.UNSUPPORTED, x -> x.ban(0, 0));
    byFew("P30 banned so already by 1", Check.UNSUPPORTED, x -> x.ban(1, 2));
    twins.refused("P30 banned so already, ahead of no coins", Check.UNSUPPORTED, RefusalsTest::spent,
        x -> x.ban(0, 0));
    twins.refused("P30 no index, ahead of no coins", Check.INDEX, RefusalsTest::spent, x -> x.ban(0, 3));
    twins.refused("P30 no coins", Check.STATE, RefusalsTest::spent, x -> x.ban(0, 1));
    twins.refused("P30 one coin", Check.STATE, RefusalsTest::tied, x -> x.ban(0, 0));
    twins.refused("P30 one coin, no index, duellist 2", Check.ARGUMENT, RefusalsTest::tied, x -> x.ban(2, 9));
    for (int coins : new int[] {4, 5, 6}) {
      twins.refused("P30 two are, with coins left " + (coins - 4), Check.UNSUPPORTED,
          x -> bansOfTwo(x, coins), x -> x.ban(1, 2));
      twins.refused("P30 two are, and it is one of them", Check.UNSUPPORTED,
          x -> bansOfTwo(x, coins), x -> x.ban(1, 1));
    }
  }

  /** Three indexes, a tie that leaves a coin to each. */
  private static void tied(DuelSchema x) {
    x.table(1);
    for (int index = 0; index < 3; index++) {
      x.index(0, 0);
    }
    x.query();
    x.from(0, 0);
    x.round(0);
  }

  /** Two coins of each, and both of the duellist 0 spent for a ban of the index 0. */
  private static void spent(DuelSchema x) {
    tied(x);
    x.round(0);
    x.ban(0, 0);
  }

  private static void bansOfTwo(DuelSchema x, int coins) {
    tied(x);
    for (int round = 1; round < coins; round++) {
      x.round(0);
    }
    x.ban(1, 0);
    x.ban(1, 1);
  }

  private void promise31Round() {
    byNew("P31 no query yet", Check.INDEX, x -> x.round(0));
    for (int query : NO_QUERIES) {
      byFew("P31 query " + query, Check.INDEX, x -> x.round(query));
    }
    byFull("P31 query 8 of eight", Check.INDEX, x -> x.round(8));
    byFew("P31 no position", Check.UNSUPPORTED, x -> x.round(2));
    byFull("P31 no position", Check.UNSUPPORTED, x -> x.round(7));
  }

  private void promise32Appeal() {
    for (int duellist : NO_DUELLISTS) {
      byNew("P32 duellist " + duellist + " ahead of no round", Check.ARGUMENT, x -> x.appeal(duellist));
      byFew("P32 duellist " + duellist, Check.ARGUMENT, x -> x.appeal(duellist));
    }
    for (int duellist = 0; duellist < 2; duellist++) {
      int d = duellist;
      byNew("P32 no round, ahead of no coin", Check.UNSUPPORTED, x -> x.appeal(d));
      twins.refused("P32 a query was told since", Check.UNSUPPORTED, x -> {
        few(x);
        x.query();
      }, x -> x.appeal(d));
      twins.refused("P32 one has appealed", Check.UNSUPPORTED, x -> {
        few(x);
        x.appeal(1);
      }, x -> x.appeal(d));
      // The duellist 0 loses its one coin, so that no coin is left as the second reason.
      twins.refused("P32 one has appealed, ahead of no coin", Check.UNSUPPORTED, x -> {
        tied(x);
        x.appeal(0);
      }, x -> x.appeal(d));
      twins.refused("P32 something was told since, ahead of no coin", Check.UNSUPPORTED, x -> {
        spent(x);
        x.flush();
      }, x -> x.appeal(d));
    }
    twins.refused("P32 no coin", Check.STATE, RefusalsTest::spent, x -> x.appeal(0));
  }

  private void promise33To39Duel() {
    for (int duellist : NO_DUELLISTS) {
      byFew("P33 duellist " + duellist, Check.ARGUMENT, x -> x.coins(duellist));
      byFew("P34 duellist " + duellist, Check.ARGUMENT, x -> x.misses(duellist, 0));
      byFew("P34 duellist " + duellist + " ahead of the round", Check.ARGUMENT, x -> x.misses(duellist, -1));
      byFew("P35 duellist " + duellist, Check.ARGUMENT, x -> x.total(duellist));
    }
    for (int duellist = 0; duellist < 2; duellist++) {
      int d = duellist;
      byNew("P34 no round yet", Check.NONE, x -> x.misses(d, 0));
      for (int round : new int[] {-1, 5, 6, 511, 512, 1 << 30, 1 << 31, GREATEST}) {
        byFew("P34 round " + round + " of five", Check.NONE, x -> x.misses(d, round));
      }
    }
    byNew("P39 no round", Check.ARITHMETIC, DuelSchema::meanMisses);
    twins.refused("P39 no round of a query", Check.ARITHMETIC, x -> {
      x.table(1);
      x.query();
      x.from(0, 0);
    }, DuelSchema::meanMisses);
  }

  /** What only asks: P28 says that the cache stays as it is, P32 that an appeal stays open. */
  private void asksThatChangeNothing() {
    Twins.Asking[] asked = {
      x -> x.pages(0), x -> x.value(0, 8, 1), x -> x.entries(2), x -> x.entryAt(1, 7), x -> x.counted(0, 1, 'g'),
      DuelSchema::cached, x -> x.cachedAt(4), x -> x.answers(0), x -> x.answerAt(1, 2, 0), x -> x.sum(0, 1, 0),
      x -> x.planned(1, 0, 1), x -> x.way(0, 0, 1), x -> x.usedIndex(0, 0, 1), x -> x.estimate(1, 0),
      x -> x.cold(0, 0), x -> x.cold(1, 0), x -> x.reads(0, 1), x -> x.reads(1, 1), x -> x.coins(1),
      x -> x.misses(0, 4), x -> x.total(1), DuelSchema::rounds, DuelSchema::print, x -> x.hitShare(0, 0),
      x -> x.hitShare(1, 1), DuelSchema::meanMisses, DuelSchema::isSound
    };
    for (int call = 0; call < asked.length; call++) {
      twins.unchanged("P9 to P40, the call " + call + " that asks", RefusalsTest::few, asked[call]);
    }
  }

  public static void main(String[] args) {
    Check check = new Check();
    RefusalsTest test = new RefusalsTest(check);
    test.whatIsRefusedOn(check);
    test.promise2Table();
    test.promise3Bound();
    test.promise4Insert();
    test.promise5Remove();
    test.promise6Count();
    test.promise7Index();
    test.promise8Frames();
    test.promise9And10PagesAndValue();
    test.promise11And12Entries();
    test.promise13Counted();
    test.promise15CachedAt();
    test.promise17And18QueryAndFrom();
    test.promise19Where();
    test.promise20Join();
    test.promise21To23Answers();
    test.promise24To26Places();
    test.promise27To29And38Figures();
    test.promise30Ban();
    test.promise31Round();
    test.promise32Appeal();
    test.promise33To39Duel();
    test.asksThatChangeNothing();
    check.end();
  }
}
