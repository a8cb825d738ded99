import java.util.NoSuchElementException;

/** A duel of two planners of queries on one store; DOC.md promises what each call answers. */
public final class DuelSchema {
  private static final int MOST_TABLES = 3;
  private static final int MOST_COLUMNS = 3;
  private static final int MOST_ROWS = 40;
  private static final int MOST_INDEXES = 6;
  private static final int MOST_QUERIES = 8;
  private static final int MOST_POSITIONS = 3;
  private static final int MOST_CONDITIONS = 4;
  private static final int MOST_JOINS = 3;
  private static final int MOST_FRAMES = 12;
  private static final int FRAMES_AT_FIRST = 4;
  private static final int GREATEST_VALUE = 99;
  private static final int ROWS_OF_PAGE = 4;
  private static final int ENTRIES_OF_LEAF = 8;
  private static final int KEYS_OF_ONE = 100;
  private static final int DUELLISTS = 2;
  private static final int MOST_BANS = 2;
  private static final int PRICE_OF_BAN = 2;
  private static final int PRIZE = 3;
  private static final int THOUSAND = 1000;
  // An object is used for at most 512 calls, so no more rounds can ever be asked for.
  private static final int MOST_ROUNDS = 512;
  private static final int NONE = -1;
  private static final char BY_PAGES = 'f';
  private static final char BY_CONDITION = 'c';
  private static final char BY_JOIN = 'j';
  // Rising, so that the first of several orders with the same estimate is met first.
  private static final int[] ORDERS = {0, 1, 2, 0, 2, 1, 1, 0, 2, 1, 2, 0, 2, 0, 1, 2, 1, 0};

  private final Store store = new Store();
  private final Query[] queries = new Query[MOST_QUERIES];
  private int queryCount = 0;
  private final Cache cache = new Cache();
  private final Cache trialCache = new Cache();
  private final Planner planner = new Planner();
  private final Runner runner = new Runner();
  private final Plan askedPlan = new Plan();
  // An appeal runs the plans of the round again, and bans told since would change them if drawn anew.
  private final Plan bookPlanOfRound = new Plan();
  private final Plan countPlanOfRound = new Plan();
  private Query queryOfRound = null;
  private final Duel duel = new Duel();

  public DuelSchema() {
  }

  // ---- the store

  public int table(int columns) throws IllegalArgumentException, IllegalStateException {
    if (columns < 1 || columns > MOST_COLUMNS) {
      throw new IllegalArgumentException("a table has 1 to 3 columns");
    }
    int number = store.addTable(columns);
    if (number == NONE) {
      throw new IllegalStateException("there are 3 tables");
    }
    duel.closeAppeals();
    return number;
  }

  public int bound(int table, int column, int low, int high)
      throws IndexOutOfBoundsException, IllegalArgumentException {
    Table bounded = needTable(table);
    if (!bounded.hasColumn(column) || !isValue(low) || !isValue(high) || low > high) {
      throw new IllegalArgumentException("no such column, or no such bounds");
    }
    bounded.setBounds(column, low, high);
    duel.closeAppeals();
    return bounded.rowsBeyondBounds(column);
  }

  public int insert(int table, int one, int two, int three)
      throws IndexOutOfBoundsException, IllegalArgumentException, IllegalStateException {
    Table fed = needTable(table);
    if (!fed.admits(one, two, three)) {
      throw new IllegalArgumentException("a value is beyond the bounds");
    }
    int row = store.addRow(fed, one, two, three);
    if (row == NONE) {
      throw new IllegalStateException("there were 40 rows");
    }
    forgetRow(fed, row);
    duel.closeAppeals();
    return row;
  }

  public int remove(int table, int row) throws IndexOutOfBoundsException, NoSuchElementException {
    Table shrunk = needTable(table);
    if (!shrunk.hasRow(row)) {
      throw new NoSuchElementException("the row is not there");
    }
    store.dropRow(shrunk, row);
    forgetRow(shrunk, row);
    duel.closeAppeals();
    return shrunk.rowCount();
  }

  public int count(int table) throws IndexOutOfBoundsException {
    Table taken = needTable(table);
    taken.takeCounts();
    duel.closeAppeals();
    return taken.takenRows();
  }

  public int index(int table, int column)
      throws IndexOutOfBoundsException, IllegalArgumentException, IllegalStateException {
    Table indexed = needTable(table);
    if (!indexed.hasColumn(column)) {
      throw new IllegalArgumentException("no such column");
    }
    int number = store.addIndex(indexed, column);
    if (number == NONE) {
      throw new IllegalStateException("there are 6 indexes");
    }
    duel.closeAppeals();
    return number;
  }

  public int frames(int frames) throws IllegalArgumentException {
    if (frames < 0 || frames > MOST_FRAMES) {
      throw new IllegalArgumentException("frames are 0 to 12");
    }
    int before = cache.frameCount();
    cache.setFrames(frames);
    duel.closeAppeals();
    return before;
  }

  public int pages(int table) throws IndexOutOfBoundsException {
    return needTable(table).pageCount();
  }

  public int value(int table, int row, int column)
      throws IndexOutOfBoundsException, IllegalArgumentException, NoSuchElementException {
    Table asked = needTable(table);
    if (!asked.hasColumn(column)) {
      throw new IllegalArgumentException("no such column");
    }
    if (!asked.hasRow(row)) {
      throw new NoSuchElementException("the row is not there");
    }
    return asked.cell(row, column);
  }

  public int entries(int index) throws IndexOutOfBoundsException {
    return needIndex(index).size();
  }

  public int entryAt(int index, int place) throws IndexOutOfBoundsException, NoSuchElementException {
    int row = needIndex(index).rowAt(place);
    if (row == NONE) {
      throw new NoSuchElementException("no such place");
    }
    return row;
  }

  public int counted(int table, int column, char what)
      throws IndexOutOfBoundsException, IllegalArgumentException {
    int number = needTable(table).takenCount(column, what);
    if (number == NONE) {
      throw new IllegalArgumentException("no such column, or no such count");
    }
    return number;
  }

  public int cached() {
    return cache.size();
  }

  public int cachedAt(int place) throws NoSuchElementException {
    int key = cache.keyAt(place);
    if (key == NONE) {
      throw new NoSuchElementException("no such place");
    }
    return key;
  }

  public int flush() {
    int before = cache.size();
    cache.clear();
    duel.closeAppeals();
    return before;
  }

  // ---- queries

  public int query() throws IllegalStateException {
    if (queryCount < 0 || queryCount >= queries.length) {
      throw new IllegalStateException("there are 8 queries");
    }
    int number = queryCount;
    queries[number] = new Query();
    queryCount = number + 1;
    duel.closeAppeals();
    return number;
  }

  public int from(int query, int table) throws IndexOutOfBoundsException, IllegalStateException {
    Query grown = needQuery(query);
    Table added = needTable(table);
    if (!grown.addPosition(added)) {
      throw new IllegalStateException("the query has 3 positions");
    }
    duel.closeAppeals();
    return grown.size();
  }

  public int where(int query, int position, int column, char sign, int value)
      throws IndexOutOfBoundsException, IllegalArgumentException, IllegalStateException {
    Query grown = needQuery(query);
    boolean isSign = sign == '=' || sign == '<' || sign == '>';
    if (!grown.hasColumn(position, column) || !isSign || !isValue(value)) {
      throw new IllegalArgumentException("no such position, column, sign or value");
    }
    if (grown.conditionCount() >= MOST_CONDITIONS) {
      throw new IllegalStateException("the query has 4 conditions");
    }
    grown.addCondition(new Condition(position, column, sign, value));
    duel.closeAppeals();
    return grown.conditionCount();
  }

  public int join(int query, int position, int column, int other, int its)
      throws IndexOutOfBoundsException, IllegalArgumentException, IllegalStateException {
    Query grown = needQuery(query);
    if (!grown.hasColumn(position, column) || !grown.hasColumn(other, its) || position == other) {
      throw new IllegalArgumentException("no such position or column, or the same position");
    }
    if (grown.joinCount() >= MOST_JOINS) {
      throw new IllegalStateException("the query has 3 joins");
    }
    grown.addJoin(new Join(position, column, other, its));
    duel.closeAppeals();
    return grown.joinCount();
  }

  public int answers(int query) throws IndexOutOfBoundsException, UnsupportedOperationException {
    Query asked = needPositions(query);
    runner.tryAllRows(asked, NONE, 0, 0);
    return runner.foundCount();
  }

  public int answerAt(int query, int place, int position)
      throws IndexOutOfBoundsException, IllegalArgumentException, NoSuchElementException {
    Query asked = needQuery(query);
    if (!asked.hasPosition(position)) {
      throw new IllegalArgumentException("no such position");
    }
    runner.tryAllRows(asked, place, position, 0);
    int row = runner.wantedRow();
    if (row == NONE) {
      throw new NoSuchElementException("no such answer");
    }
    return row;
  }

  public long sum(int query, int position, int column)
      throws IndexOutOfBoundsException, IllegalArgumentException {
    Query asked = needQuery(query);
    if (!asked.hasColumn(position, column)) {
      throw new IllegalArgumentException("no such position or column");
    }
    runner.tryAllRows(asked, NONE, position, column);
    return runner.columnSum();
  }

  // ---- plans

  public int planned(int duellist, int query, int place)
      throws IllegalArgumentException, IndexOutOfBoundsException, NoSuchElementException {
    return needPlace(duellist, query, place).positionAt(place);
  }

  public char way(int duellist, int query, int place)
      throws IllegalArgumentException, IndexOutOfBoundsException, NoSuchElementException {
    return needPlace(duellist, query, place).wayAt(place);
  }

  public int usedIndex(int duellist, int query, int place)
      throws IllegalArgumentException, IndexOutOfBoundsException, NoSuchElementException {
    return needPlace(duellist, query, place).indexAt(place);
  }

  public long estimate(int duellist, int query)
      throws IllegalArgumentException, IndexOutOfBoundsException, UnsupportedOperationException {
    checkDuellist(duellist);
    planner.draw(askedPlan, duellist, store, needPositions(query), duel.bansFor(duellist));
    return askedPlan.guess();
  }

  public int cold(int duellist, int query)
      throws IllegalArgumentException, IndexOutOfBoundsException, UnsupportedOperationException {
    checkDuellist(duellist);
    runCold(duellist, needPositions(query));
    return runner.missCount();
  }

  public int reads(int duellist, int query)
      throws IllegalArgumentException, IndexOutOfBoundsException, UnsupportedOperationException {
    checkDuellist(duellist);
    runCold(duellist, needPositions(query));
    return runner.readCount();
  }

  // ---- the duel

  public int ban(int duellist, int index)
      throws IllegalArgumentException, IndexOutOfBoundsException, UnsupportedOperationException,
          IllegalStateException {
    checkDuellist(duellist);
    needIndex(index);
    int other = 1 - duellist;
    if (isIn(duel.bansFor(other), index) || Integer.bitCount(duel.bansFor(other)) >= MOST_BANS) {
      throw new UnsupportedOperationException("it is banned, or two are");
    }
    if (duel.purseOf(duellist) < PRICE_OF_BAN) {
      throw new IllegalStateException("there are not 2 coins");
    }
    duel.addBan(other, index);
    duel.give(duellist, -PRICE_OF_BAN);
    return duel.purseOf(duellist);
  }

  public int round(int query) throws IndexOutOfBoundsException, UnsupportedOperationException {
    Query asked = needPositions(query);
    planner.draw(bookPlanOfRound, 0, store, asked, duel.bansFor(0));
    planner.draw(countPlanOfRound, 1, store, asked, duel.bansFor(1));
    queryOfRound = asked;
    boolean bookFirst = duel.roundCount() % 2 == 0;
    int byFirst = runner.follow(store, asked, bookFirst ? bookPlanOfRound : countPlanOfRound, cache);
    int bySecond = runner.follow(store, asked, bookFirst ? countPlanOfRound : bookPlanOfRound, cache);
    duel.endRound(bookFirst ? byFirst : bySecond, bookFirst ? bySecond : byFirst);
    return duel.winner();
  }

  public int appeal(int duellist)
      throws IllegalArgumentException, UnsupportedOperationException, IllegalStateException {
    checkDuellist(duellist);
    if (!duel.isOpenToAppeals() || queryOfRound == null) {
      throw new UnsupportedOperationException("no round stands open to appeals");
    }
    if (duel.purseOf(duellist) < 1) {
      throw new IllegalStateException("there is no coin");
    }
    int byBook = runner.follow(store, queryOfRound, bookPlanOfRound, emptyTrial());
    int byCounts = runner.follow(store, queryOfRound, countPlanOfRound, emptyTrial());
    duel.endAppeal(duellist, byBook, byCounts);
    return duel.winner();
  }

  public int coins(int duellist) throws IllegalArgumentException {
    checkDuellist(duellist);
    return duel.purseOf(duellist);
  }

  public int misses(int duellist, int round) throws IllegalArgumentException, NoSuchElementException {
    checkDuellist(duellist);
    int number = duel.missedIn(duellist, round);
    if (number == NONE) {
      throw new NoSuchElementException("no such round");
    }
    return number;
  }

  public int total(int duellist) throws IllegalArgumentException {
    checkDuellist(duellist);
    return duel.missedInAll(duellist);
  }

  public int rounds() {
    return duel.roundCount();
  }

  // ---- figures

  public long print() {
    long sign = store.printFrom(7L);
    sign = 31L * sign + duel.purseOf(0);
    return 31L * sign + duel.purseOf(1);
  }

  public float hitShare(int duellist, int query)
      throws IllegalArgumentException, IndexOutOfBoundsException, UnsupportedOperationException,
          ArithmeticException {
    checkDuellist(duellist);
    runCold(duellist, needPositions(query));
    int all = runner.readCount();
    if (all <= 0) {
      throw new ArithmeticException("the plan reads nothing");
    }
    return (float) (all - runner.missCount()) / (float) all;
  }

  public double meanMisses() throws ArithmeticException {
    int played = duel.roundCount();
    if (played <= 0) {
      throw new ArithmeticException("there was no round");
    }
    return (double) (duel.missedInAll(0) + duel.missedInAll(1)) / (double) (2 * played);
  }

  public boolean isSound() {
    boolean sound = cache.isTidy() && store.indexesRise();
    for (int number = 0; sound && number < queries.length; number++) {
      Query asked = queries[number];
      if (asked != null && asked.size() > 0) {
        sound = bothPlansFind(asked);
      }
    }
    return sound;
  }

  // ---- what the calls share

  private static boolean isValue(int number) {
    return number >= 0 && number <= GREATEST_VALUE;
  }

  private static boolean isIn(int mask, int number) {
    return number >= 0 && number < MOST_INDEXES && (mask & (1 << number)) != 0;
  }

  private static int pageKey(Table table, int row) {
    return KEYS_OF_ONE * table.number() + row / ROWS_OF_PAGE;
  }

  private static int leafKey(Index index, int place) {
    return KEYS_OF_ONE * (MOST_TABLES + index.number()) + place / ENTRIES_OF_LEAF;
  }

  // The document asks that what would be divided by 0 is divided by 1.
  private static int divided(int number, int by) {
    return by == 0 ? number : number / by;
  }

  private static void checkDuellist(int duellist) throws IllegalArgumentException {
    if (duellist < 0 || duellist >= DUELLISTS) {
      throw new IllegalArgumentException("duellists are 0 and 1");
    }
  }

  private Table needTable(int number) throws IndexOutOfBoundsException {
    Table found = store.tableAt(number);
    if (found == null) {
      throw new IndexOutOfBoundsException("no such table");
    }
    return found;
  }

  private Index needIndex(int number) throws IndexOutOfBoundsException {
    Index found = store.indexAt(number);
    if (found == null) {
      throw new IndexOutOfBoundsException("no such index");
    }
    return found;
  }

  private Query needQuery(int number) throws IndexOutOfBoundsException {
    Query found = number >= 0 && number < queries.length ? queries[number] : null;
    if (found == null) {
      throw new IndexOutOfBoundsException("no such query");
    }
    return found;
  }

  private Query needPositions(int number) throws IndexOutOfBoundsException, UnsupportedOperationException {
    Query found = needQuery(number);
    if (found.size() == 0) {
      throw new UnsupportedOperationException("the query has no position");
    }
    return found;
  }

  private Plan needPlace(int duellist, int query, int place)
      throws IllegalArgumentException, IndexOutOfBoundsException, NoSuchElementException {
    checkDuellist(duellist);
    Query asked = needQuery(query);
    if (!asked.hasPosition(place)) {
      throw new NoSuchElementException("no such place");
    }
    planner.draw(askedPlan, duellist, store, asked, duel.bansFor(duellist));
    return askedPlan;
  }

  private void runCold(int duellist, Query asked) {
    planner.draw(askedPlan, duellist, store, asked, duel.bansFor(duellist));
    runner.follow(store, asked, askedPlan, emptyTrial());
  }

  private Cache emptyTrial() {
    trialCache.clear();
    trialCache.setFrames(cache.frameCount());
    return trialCache;
  }

  private void forgetRow(Table table, int row) {
    int page = pageKey(table, row);
    cache.drop(page, page);
    for (int number = 0; number < MOST_INDEXES; number++) {
      Index index = store.indexAt(number);
      if (index != null && index.isOf(table)) {
        int firstLeaf = leafKey(index, 0);
        cache.drop(firstLeaf, firstLeaf + KEYS_OF_ONE - 1);
      }
    }
  }

  private boolean bothPlansFind(Query asked) {
    runner.tryAllRows(asked, NONE, 0, 0);
    int found = runner.foundCount();
    long mark = runner.foundMark();
    for (int duellist = 0; duellist < DUELLISTS; duellist++) {
      planner.draw(askedPlan, duellist, store, asked, duel.bansFor(duellist));
      runner.follow(store, asked, askedPlan, emptyTrial());
      boolean same = runner.foundCount() == found && runner.foundMark() == mark;
      if (!same || runner.missCount() > runner.readCount()
          || askedPlan.usesAnyOf(duel.bansFor(duellist))) {
        return false;
      }
    }
    return true;
  }

  /** A table: its rows, the bounds of its columns, and its counts as they were taken. */
  private static final class Table {
    private final int number;
    private final int columns;
    private int made = 0;
    private int living = 0;
    private final boolean[] there = new boolean[MOST_ROWS];
    private final int[] cells = new int[MOST_ROWS * MOST_COLUMNS];
    private final int[] lows = new int[MOST_COLUMNS];
    private final int[] highs = {GREATEST_VALUE, GREATEST_VALUE, GREATEST_VALUE};
    private int rowsTaken = 0;
    private int pagesTaken = 0;
    private final int[] unlikeTaken = new int[MOST_COLUMNS];
    private final int[] leastTaken = new int[MOST_COLUMNS];
    private final int[] greatestTaken = new int[MOST_COLUMNS];

    Table(int number, int columns) {
      this.number = number;
      this.columns = columns;
    }

    int number() {
      return number;
    }

    boolean hasColumn(int column) {
      return column >= 0 && column < columns && column < MOST_COLUMNS;
    }

    boolean hasRow(int row) {
      return row >= 0 && row < there.length && there[row];
    }

    int rowCount() {
      return living;
    }

    int rowsEver() {
      return made;
    }

    // Removed rows leave their places, so a table never has fewer pages than before.
    int pageCount() {
      return (made + ROWS_OF_PAGE - 1) / ROWS_OF_PAGE;
    }

    int cell(int row, int column) {
      int place = row * MOST_COLUMNS + column;
      return place >= 0 && place < cells.length ? cells[place] : 0;
    }

    void setBounds(int column, int low, int high) {
      if (hasColumn(column)) {
        lows[column] = low;
        highs[column] = high;
      }
    }

    // A column that the table has not lets every value pass, as it has no meaning.
    private boolean isWithin(int column, int offered) {
      return !hasColumn(column) || offered >= lows[column] && offered <= highs[column];
    }

    boolean admits(int one, int two, int three) {
      return isWithin(0, one) && isWithin(1, two) && isWithin(2, three);
    }

    int rowsBeyondBounds(int column) {
      int beyond = 0;
      for (int row = 0; row < there.length; row++) {
        if (there[row] && !isWithin(column, cell(row, column))) {
          beyond++;
        }
      }
      return beyond;
    }

    int addRow(int one, int two, int three) {
      int row = made;
      int place = row * MOST_COLUMNS;
      if (row < 0 || row >= there.length || place < 0 || place + 2 >= cells.length) {
        return NONE;
      }
      cells[place] = one;
      cells[place + 1] = two;
      cells[place + 2] = three;
      there[row] = true;
      made++;
      living++;
      return row;
    }

    void dropRow(int row) {
      if (hasRow(row)) {
        there[row] = false;
        living--;
      }
    }

    void takeCounts() {
      rowsTaken = living;
      pagesTaken = pageCount();
      for (int column = 0; column < columns; column++) {
        takeColumn(column);
      }
    }

    private void takeColumn(int column) {
      int unlike = 0;
      int least = GREATEST_VALUE;
      int greatest = 0;
      for (int row = 0; row < there.length; row++) {
        if (there[row]) {
          int held = cell(row, column);
          least = Math.min(least, held);
          greatest = Math.max(greatest, held);
          unlike += isFirstWith(row, column, held) ? 1 : 0;
        }
      }
      if (column >= 0 && column < MOST_COLUMNS) {
        unlikeTaken[column] = unlike;
        leastTaken[column] = living == 0 ? 0 : least;
        greatestTaken[column] = greatest;
      }
    }

    private boolean isFirstWith(int row, int column, int held) {
      for (int ahead = 0; ahead < row; ahead++) {
        if (hasRow(ahead) && cell(ahead, column) == held) {
          return false;
        }
      }
      return true;
    }

    int takenRows() {
      return rowsTaken;
    }

    int takenPages() {
      return pagesTaken;
    }

    int takenUnlike(int column) {
      return column >= 0 && column < unlikeTaken.length ? unlikeTaken[column] : 0;
    }

    int takenCount(int column, char what) {
      if (!hasColumn(column)) {
        return NONE;
      }
      if (what == 'r') {
        return rowsTaken;
      }
      if (what == 'p') {
        return pagesTaken;
      }
      if (what == 'u') {
        return unlikeTaken[column];
      }
      if (what == 'l') {
        return leastTaken[column];
      }
      return what == 'g' ? greatestTaken[column] : NONE;
    }

    // Even without rows, from 0 to 0, there is one value, so the span is never 0.
    int shareOf(Condition condition) {
      int column = condition.column();
      if (!hasColumn(column)) {
        return 0;
      }
      if (condition.isEqual()) {
        return divided(THOUSAND, unlikeTaken[column]);
      }
      int low = Math.max(leastTaken[column], condition.least());
      int high = Math.min(greatestTaken[column], condition.greatest());
      int span = greatestTaken[column] - leastTaken[column] + 1;
      return divided(THOUSAND * Math.max(0, high - low + 1), span);
    }

    long printFrom(long sign) {
      long grown = sign;
      for (int row = 0; row < there.length; row++) {
        for (int column = 0; there[row] && column < columns; column++) {
          grown = 31L * grown + cell(row, column);
        }
      }
      return grown;
    }
  }

  /** An index: the rows of its table, by rising values of its column, of like ones by rows. */
  private static final class Index {
    private final int number;
    private final Table table;
    private final int column;
    private final int[] rows = new int[MOST_ROWS];
    private int size = 0;

    Index(int number, Table table, int column) {
      this.number = number;
      this.table = table;
      this.column = column;
    }

    int number() {
      return number;
    }

    boolean isOf(Table asked) {
      return table == asked;
    }

    boolean isOn(Table asked, int itsColumn) {
      return table == asked && column == itsColumn;
    }

    int size() {
      return size;
    }

    int rowAt(int place) {
      return place >= 0 && place < size && place < rows.length ? rows[place] : NONE;
    }

    int valueAt(int place) {
      int row = rowAt(place);
      return row == NONE ? NONE : table.cell(row, column);
    }

    int firstFrom(int least) {
      int place = 0;
      while (place < size && valueAt(place) < least) {
        place++;
      }
      return place;
    }

    // A row that comes has the greatest number, so it stands behind all like values.
    void addRow(int row) {
      int place = firstFrom(table.cell(row, column) + 1);
      if (size < 0 || size >= rows.length) {
        return;
      }
      for (int moved = size; moved > place && moved > 0; moved--) {
        rows[moved] = rows[moved - 1];
      }
      if (place >= 0 && place < rows.length) {
        rows[place] = row;
        size++;
      }
    }

    void dropRow(int row) {
      int kept = 0;
      for (int place = 0; place < size && place < rows.length; place++) {
        if (rows[place] != row && kept < rows.length) {
          rows[kept] = rows[place];
          kept++;
        }
      }
      size = kept;
    }

    boolean rises() {
      boolean rising = size == table.rowCount();
      for (int place = 0; rising && place < size; place++) {
        int step = valueAt(place) - valueAt(place - 1);
        rising = table.hasRow(rowAt(place)) && (step > 0 || step == 0 && rowAt(place) > rowAt(place - 1));
      }
      return rising;
    }
  }

  /** The tables and the indexes on them. */
  private static final class Store {
    private final Table[] tables = new Table[MOST_TABLES];
    private int tableCount = 0;
    private final Index[] indexes = new Index[MOST_INDEXES];
    private int indexCount = 0;

    Table tableAt(int number) {
      return number >= 0 && number < tables.length ? tables[number] : null;
    }

    Index indexAt(int number) {
      return number >= 0 && number < indexes.length ? indexes[number] : null;
    }

    int addTable(int columns) {
      int number = tableCount;
      if (number < 0 || number >= tables.length) {
        return NONE;
      }
      tables[number] = new Table(number, columns);
      tableCount = number + 1;
      return number;
    }

    int addIndex(Table table, int column) {
      int number = indexCount;
      if (number < 0 || number >= indexes.length) {
        return NONE;
      }
      Index added = new Index(number, table, column);
      for (int row = 0; row < MOST_ROWS; row++) {
        if (table.hasRow(row)) {
          added.addRow(row);
        }
      }
      indexes[number] = added;
      indexCount = number + 1;
      return number;
    }

    int addRow(Table table, int one, int two, int three) {
      int row = table.addRow(one, two, three);
      for (int number = 0; row != NONE && number < indexes.length; number++) {
        Index index = indexes[number];
        if (index != null && index.isOf(table)) {
          index.addRow(row);
        }
      }
      return row;
    }

    void dropRow(Table table, int row) {
      table.dropRow(row);
      for (int number = 0; number < indexes.length; number++) {
        Index index = indexes[number];
        if (index != null && index.isOf(table)) {
          index.dropRow(row);
        }
      }
    }

    int lowestIndexOn(Table table, int column, int banned) {
      for (int number = 0; number < indexes.length; number++) {
        Index index = indexes[number];
        if (index != null && index.isOn(table, column) && !isIn(banned, number)) {
          return number;
        }
      }
      return NONE;
    }

    boolean indexesRise() {
      for (int number = 0; number < indexes.length; number++) {
        Index index = indexes[number];
        if (index != null && !index.rises()) {
          return false;
        }
      }
      return true;
    }

    long printFrom(long sign) {
      long grown = sign;
      for (int number = 0; number < tables.length; number++) {
        Table table = tables[number];
        if (table != null) {
          grown = table.printFrom(grown);
        }
      }
      return grown;
    }
  }

  /** The keys of the pages and leaves that were read latest, the latest one first. */
  private static final class Cache {
    private final int[] keys = new int[MOST_FRAMES];
    private int frames = FRAMES_AT_FIRST;
    private int size = 0;

    int frameCount() {
      return frames;
    }

    int size() {
      return size;
    }

    int keyAt(int place) {
      return place >= 0 && place < size && place < keys.length ? keys[place] : NONE;
    }

    void clear() {
      size = 0;
    }

    void setFrames(int number) {
      frames = number;
      size = Math.min(size, number);
    }

    /** Makes a key the latest one, and tells whether that was a miss. */
    boolean missed(int key) {
      int place = placeOf(key);
      boolean miss = place == size;
      if (miss) {
        if (frames <= 0) {
          return true;
        }
        size = Math.min(size + 1, frames);
        place = size - 1;
      }
      for (int moved = Math.min(place, keys.length - 1); moved > 0; moved--) {
        keys[moved] = keys[moved - 1];
      }
      keys[0] = key;
      return miss;
    }

    private int placeOf(int key) {
      int place = 0;
      while (place < size && place < keys.length && keys[place] != key) {
        place++;
      }
      return place;
    }

    void drop(int leastKey, int greatestKey) {
      int kept = 0;
      for (int place = 0; place < size && place < keys.length; place++) {
        boolean dropped = keys[place] >= leastKey && keys[place] <= greatestKey;
        if (!dropped && kept < keys.length) {
          keys[kept] = keys[place];
          kept++;
        }
      }
      size = kept;
    }

    boolean isTidy() {
      boolean tidy = size <= frames;
      for (int place = 0; tidy && place < size; place++) {
        tidy = placeOf(keyAt(place)) == place;
      }
      return tidy;
    }
  }

  /** A condition of a column of a position: the values from a least to a greatest one. */
  private static final class Condition {
    private final int position;
    private final int column;
    private final char sign;
    private final int limit;

    Condition(int position, int column, char sign, int limit) {
      this.position = position;
      this.column = column;
      this.sign = sign;
      this.limit = limit;
    }

    int position() {
      return position;
    }

    int column() {
      return column;
    }

    boolean isEqual() {
      return sign == '=';
    }

    int least() {
      return sign == '=' ? limit : sign == '<' ? 0 : limit + 1;
    }

    int greatest() {
      return sign == '=' ? limit : sign == '<' ? limit - 1 : GREATEST_VALUE;
    }

    boolean allows(int number) {
      return sign == '=' ? number == limit : sign == '<' ? number < limit : number > limit;
    }
  }

  /** A join of columns of two positions; each of them may be asked for the other one. */
  private static final class Join {
    private final int position;
    private final int column;
    private final int other;
    private final int its;

    Join(int position, int column, int other, int its) {
      this.position = position;
      this.column = column;
      this.other = other;
      this.its = its;
    }

    int partnerOf(int asked) {
      return asked == position ? other : asked == other ? position : NONE;
    }

    int columnOf(int asked) {
      return asked == position ? column : asked == other ? its : NONE;
    }
  }

  /** A query: the tables of its positions, its conditions and its joins, as they were told. */
  private static final class Query {
    private final Table[] tables = new Table[MOST_POSITIONS];
    private int size = 0;
    private final Condition[] conditions = new Condition[MOST_CONDITIONS];
    private int conditionCount = 0;
    private final Join[] joins = new Join[MOST_JOINS];
    private int joinCount = 0;

    int size() {
      return size;
    }

    int conditionCount() {
      return conditionCount;
    }

    int joinCount() {
      return joinCount;
    }

    boolean hasPosition(int position) {
      return position >= 0 && position < size;
    }

    Table tableOf(int position) {
      return position >= 0 && position < tables.length ? tables[position] : null;
    }

    boolean hasColumn(int position, int column) {
      Table table = tableOf(position);
      return table != null && table.hasColumn(column);
    }

    Condition conditionAt(int place) {
      return place >= 0 && place < conditions.length ? conditions[place] : null;
    }

    Join joinAt(int place) {
      return place >= 0 && place < joins.length ? joins[place] : null;
    }

    boolean addPosition(Table table) {
      if (size < 0 || size >= tables.length) {
        return false;
      }
      tables[size] = table;
      size++;
      return true;
    }

    void addCondition(Condition condition) {
      if (conditionCount >= 0 && conditionCount < conditions.length) {
        conditions[conditionCount] = condition;
        conditionCount++;
      }
    }

    void addJoin(Join join) {
      if (joinCount >= 0 && joinCount < joins.length) {
        joins[joinCount] = join;
        joinCount++;
      }
    }
  }

  /** A plan: for each place a position, the way to its rows, and the index that is used. */
  private static final class Plan {
    private int size = 0;
    private final int[] positions = new int[MOST_POSITIONS];
    private final int[] places = new int[MOST_POSITIONS];
    private final char[] ways = new char[MOST_POSITIONS];
    private final int[] reasons = new int[MOST_POSITIONS];
    private final int[] indexes = new int[MOST_POSITIONS];
    private long guess = 0;

    int size() {
      return size;
    }

    long guess() {
      return guess;
    }

    void setGuess(long number) {
      guess = number;
    }

    int positionAt(int place) {
      return place >= 0 && place < positions.length ? positions[place] : NONE;
    }

    char wayAt(int place) {
      return place >= 0 && place < ways.length ? ways[place] : BY_PAGES;
    }

    /** The number of the condition or the join by which the index is used. */
    int reasonAt(int place) {
      return place >= 0 && place < reasons.length ? reasons[place] : NONE;
    }

    int indexAt(int place) {
      return place >= 0 && place < indexes.length ? indexes[place] : NONE;
    }

    boolean isAhead(int position, int place) {
      return position >= 0 && position < size && position < places.length && places[position] < place;
    }

    boolean usesAnyOf(int banned) {
      for (int place = 0; place < size; place++) {
        if (isIn(banned, indexAt(place))) {
          return true;
        }
      }
      return false;
    }

    void setWay(int place, char way, int reason, int index) {
      if (place >= 0 && place < MOST_POSITIONS) {
        ways[place] = way;
        reasons[place] = reason;
        indexes[place] = index;
      }
    }

    /** Takes an order of three positions, or refuses it if one that is not there would move. */
    boolean takeOrder(int order, int positionCount) {
      size = positionCount;
      for (int place = 0; place < MOST_POSITIONS; place++) {
        int from = order * MOST_POSITIONS + place;
        int position = from >= 0 && from < ORDERS.length ? ORDERS[from] : place;
        if (place >= positionCount && position != place || position < 0 || position >= MOST_POSITIONS) {
          return false;
        }
        positions[place] = position;
        places[position] = place;
        setWay(place, BY_PAGES, NONE, NONE);
      }
      return true;
    }

    void copyFrom(Plan plan) {
      size = plan.size();
      guess = plan.guess();
      for (int place = 0; place < MOST_POSITIONS; place++) {
        int position = plan.positionAt(place);
        if (position >= 0 && position < MOST_POSITIONS) {
          positions[place] = position;
          places[position] = place;
        }
        setWay(place, plan.wayAt(place), plan.reasonAt(place), plan.indexAt(place));
      }
    }
  }

  /** Draws the plans of both duellists, by the book and by the counts. */
  private static final class Planner {
    private final Plan draft = new Plan();
    // Shares, costs and indexes do not depend on the order, so they are taken once for each plan.
    private final int[] conditionShares = new int[MOST_CONDITIONS];
    private final int[] conditionCosts = new int[MOST_CONDITIONS];
    private final int[] conditionIndexes = new int[MOST_CONDITIONS];
    private final int[] joinShares = new int[MOST_JOINS];
    // A join may be used from each of its positions, so these have a place for each position.
    private final int[] joinCosts = new int[MOST_JOINS * MOST_POSITIONS];
    private final int[] joinIndexes = new int[MOST_JOINS * MOST_POSITIONS];

    void draw(Plan plan, int duellist, Store store, Query query, int banned) {
      takeConditions(store, query, banned);
      takeJoins(store, query, banned);
      if (duellist == 0) {
        drawByBook(plan, query);
      } else {
        drawByCounts(plan, query);
      }
    }

    private void takeConditions(Store store, Query query, int banned) {
      for (int number = 0; number < MOST_CONDITIONS; number++) {
        Condition condition = query.conditionAt(number);
        Table table = condition == null ? null : query.tableOf(condition.position());
        conditionIndexes[number] = NONE;
        if (table != null) {
          int share = table.shareOf(condition);
          conditionShares[number] = share;
          conditionCosts[number] = 1 + table.takenRows() * share / THOUSAND;
          conditionIndexes[number] = store.lowestIndexOn(table, condition.column(), banned);
        }
      }
    }

    private void takeJoins(Store store, Query query, int banned) {
      for (int number = 0; number < MOST_JOINS; number++) {
        Join join = query.joinAt(number);
        int mostUnlike = 0;
        for (int position = 0; join != null && position < MOST_POSITIONS; position++) {
          Table table = query.tableOf(position);
          if (table != null && join.partnerOf(position) != NONE) {
            int column = join.columnOf(position);
            int unlike = table.takenUnlike(column);
            int cost = 1 + divided(table.takenRows(), unlike);
            takeJoinFrom(number, position, cost, store.lowestIndexOn(table, column, banned));
            mostUnlike = Math.max(mostUnlike, unlike);
          }
        }
        joinShares[number] = divided(THOUSAND, mostUnlike);
      }
    }

    private void takeJoinFrom(int number, int position, int cost, int index) {
      int place = number * MOST_POSITIONS + position;
      if (place >= 0 && place < joinCosts.length && place < joinIndexes.length) {
        joinCosts[place] = cost;
        joinIndexes[place] = index;
      }
    }

    private void drawByBook(Plan plan, Query query) {
      plan.takeOrder(0, query.size());
      for (int place = 0; place < plan.size(); place++) {
        if (!joinByBook(plan, query, place) && !conditionByBook(plan, query, place, true)) {
          conditionByBook(plan, query, place, false);
        }
      }
      plan.setGuess(guessOf(plan, query));
    }

    private boolean joinByBook(Plan plan, Query query, int place) {
      for (int number = 0; number < MOST_JOINS; number++) {
        int index = indexOfJoin(plan, query, place, number);
        if (index != NONE) {
          plan.setWay(place, BY_JOIN, number, index);
          return true;
        }
      }
      return false;
    }

    private boolean conditionByBook(Plan plan, Query query, int place, boolean equal) {
      for (int number = 0; number < MOST_CONDITIONS; number++) {
        Condition condition = query.conditionAt(number);
        int index = indexOfCondition(plan, query, place, number);
        if (index != NONE && condition != null && condition.isEqual() == equal) {
          plan.setWay(place, BY_CONDITION, number, index);
          return true;
        }
      }
      return false;
    }

    private void drawByCounts(Plan plan, Query query) {
      boolean first = true;
      for (int order = 0; order < ORDERS.length / MOST_POSITIONS; order++) {
        if (draft.takeOrder(order, query.size())) {
          // The choices behind a place do not depend on its way, so each place chooses its way alone.
          for (int place = 0; place < draft.size(); place++) {
            takeCheapestWay(query, place);
          }
          draft.setGuess(guessOf(draft, query));
          if (first || draft.guess() < plan.guess()) {
            plan.copyFrom(draft);
            first = false;
          }
        }
      }
    }

    private void takeCheapestWay(Query query, int place) {
      int least = costOf(draft, query, place);
      for (int number = 0; number < MOST_CONDITIONS; number++) {
        int index = indexOfCondition(draft, query, place, number);
        if (index != NONE && conditionCosts[number] < least) {
          least = conditionCosts[number];
          draft.setWay(place, BY_CONDITION, number, index);
        }
      }
      for (int number = 0; number < MOST_JOINS; number++) {
        int index = indexOfJoin(draft, query, place, number);
        int cost = joinCost(number, draft.positionAt(place));
        if (index != NONE && cost < least) {
          least = cost;
          draft.setWay(place, BY_JOIN, number, index);
        }
      }
    }

    private int indexOfCondition(Plan plan, Query query, int place, int number) {
      Condition condition = query.conditionAt(number);
      boolean isHere = condition != null && condition.position() == plan.positionAt(place);
      return isHere && number >= 0 && number < conditionIndexes.length ? conditionIndexes[number] : NONE;
    }

    private int indexOfJoin(Plan plan, Query query, int place, int number) {
      Join join = query.joinAt(number);
      int position = plan.positionAt(place);
      boolean isOpen = join != null && plan.isAhead(join.partnerOf(position), place);
      int from = number * MOST_POSITIONS + position;
      return isOpen && from >= 0 && from < joinIndexes.length ? joinIndexes[from] : NONE;
    }

    private int joinCost(int number, int position) {
      int from = number * MOST_POSITIONS + position;
      return from >= 0 && from < joinCosts.length ? joinCosts[from] : 0;
    }

    private int costOf(Plan plan, Query query, int place) {
      int reason = plan.reasonAt(place);
      if (plan.wayAt(place) == BY_JOIN) {
        return joinCost(reason, plan.positionAt(place));
      }
      if (plan.wayAt(place) == BY_CONDITION) {
        return reason >= 0 && reason < conditionCosts.length ? conditionCosts[reason] : 0;
      }
      Table table = query.tableOf(plan.positionAt(place));
      return table == null ? 0 : table.takenPages();
    }

    private long guessOf(Plan plan, Query query) {
      long grown = 0;
      long choices = 1;
      for (int place = 0; place < plan.size(); place++) {
        grown += choices * costOf(plan, query, place);
        choices = choicesBehind(plan, query, place, choices);
      }
      return grown;
    }

    private long choicesBehind(Plan plan, Query query, int place, long before) {
      int position = plan.positionAt(place);
      Table table = query.tableOf(position);
      long choices = table == null ? 0 : before * table.takenRows();
      for (int number = 0; number < MOST_CONDITIONS; number++) {
        Condition condition = query.conditionAt(number);
        if (condition != null && condition.position() == position) {
          choices = choices * conditionShares[number] / THOUSAND;
        }
      }
      for (int number = 0; number < MOST_JOINS; number++) {
        Join join = query.joinAt(number);
        if (join != null && plan.isAhead(join.partnerOf(position), place)) {
          choices = choices * joinShares[number] / THOUSAND;
        }
      }
      return Math.max(1, choices);
    }
  }

  /** Goes through the rows of a query by a plan, and counts what is read, missed and found. */
  private static final class Runner {
    private final Plan everyRow = new Plan();
    private Store store = null;
    private Query query = null;
    private Plan plan = null;
    private Cache cache = null;
    private final int[] chosen = new int[MOST_POSITIONS];
    private final int[] held = new int[MOST_POSITIONS * MOST_COLUMNS];
    private int readCount = 0;
    private int missCount = 0;
    private int foundCount = 0;
    private long foundMark = 0;
    private int wantedPlace = NONE;
    private int wantedPosition = 0;
    private int wantedColumn = 0;
    private int wantedRow = NONE;
    private long columnSum = 0;

    int readCount() {
      return readCount;
    }

    int missCount() {
      return missCount;
    }

    int foundCount() {
      return foundCount;
    }

    /** A number that is the same for the same answers, whatever their order. */
    long foundMark() {
      return foundMark;
    }

    int wantedRow() {
      return wantedRow;
    }

    long columnSum() {
      return columnSum;
    }

    /** Runs a plan through a cache, and returns its misses. */
    int follow(Store indexed, Query asked, Plan its, Cache through) {
      begin(asked, its);
      store = indexed;
      cache = through;
      visit(0);
      return missCount;
    }

    /** Tries all rows in the order of answers; keeps the row of one answer, and the sum of one column. */
    void tryAllRows(Query asked, int place, int position, int column) {
      everyRow.takeOrder(0, asked.size());
      begin(asked, everyRow);
      wantedPlace = place;
      wantedPosition = position;
      wantedColumn = column;
      visit(0);
    }

    private void begin(Query asked, Plan its) {
      store = null;
      query = asked;
      plan = its;
      cache = null;
      readCount = 0;
      missCount = 0;
      foundCount = 0;
      foundMark = 0;
      wantedPlace = NONE;
      wantedPosition = 0;
      wantedColumn = 0;
      wantedRow = NONE;
      columnSum = 0;
      for (int position = 0; position < chosen.length; position++) {
        chosen[position] = 0;
      }
    }

    private void visit(int place) {
      if (plan == null || query == null || place < 0 || place >= plan.size()) {
        return;
      }
      Table table = query.tableOf(plan.positionAt(place));
      Index index = store == null ? null : store.indexAt(plan.indexAt(place));
      if (table != null && plan.wayAt(place) == BY_PAGES) {
        visitPages(place, table);
      } else if (table != null && index != null && index.size() > 0) {
        visitEntries(place, table, index);
      }
    }

    private void visitPages(int place, Table table) {
      int end = Math.min(table.rowsEver(), MOST_ROWS);
      for (int row = 0; row < end; row++) {
        if (row % ROWS_OF_PAGE == 0) {
          readOne(pageKey(table, row));
        }
        visitRow(place, table, row);
      }
    }

    private void visitEntries(int place, Table table, Index index) {
      int greatest = greatestWanted(place);
      int first = index.firstFrom(leastWanted(place));
      int leafRead = NONE;
      for (int entry = first; entry < index.size() && index.valueAt(entry) <= greatest; entry++) {
        int leaf = leafKey(index, entry);
        if (leaf != leafRead) {
          readOne(leaf);
          leafRead = leaf;
        }
        int row = index.rowAt(entry);
        readOne(pageKey(table, row));
        visitRow(place, table, row);
      }
      if (leafRead == NONE) {
        readOne(leafKey(index, Math.min(first, index.size() - 1)));
      }
    }

    private int leastWanted(int place) {
      Condition condition = conditionOf(place);
      return condition == null ? joinedValue(place) : condition.least();
    }

    private int greatestWanted(int place) {
      Condition condition = conditionOf(place);
      return condition == null ? joinedValue(place) : condition.greatest();
    }

    private Condition conditionOf(int place) {
      boolean isBy = plan != null && query != null && plan.wayAt(place) == BY_CONDITION;
      return isBy ? query.conditionAt(plan.reasonAt(place)) : null;
    }

    private int joinedValue(int place) {
      Join join = plan == null || query == null ? null : query.joinAt(plan.reasonAt(place));
      int partner = join == null ? NONE : join.partnerOf(plan.positionAt(place));
      return join == null ? NONE : heldAt(partner, join.columnOf(partner));
    }

    private int heldAt(int position, int column) {
      int place = position * MOST_COLUMNS + column;
      return place >= 0 && place < held.length ? held[place] : NONE;
    }

    private void readOne(int key) {
      readCount++;
      if (cache != null && cache.missed(key)) {
        missCount++;
      }
    }

    private void visitRow(int place, Table table, int row) {
      int position = plan == null ? NONE : plan.positionAt(place);
      if (position < 0 || position >= chosen.length || !fits(place, table, row)) {
        return;
      }
      chosen[position] = row;
      for (int column = 0; column < MOST_COLUMNS; column++) {
        int from = position * MOST_COLUMNS + column;
        if (from < held.length) {
          held[from] = table.cell(row, column);
        }
      }
      if (place + 1 == plan.size()) {
        noteAnswer();
      } else {
        visit(place + 1);
      }
    }

    private boolean fits(int place, Table table, int row) {
      if (!table.hasRow(row) || plan == null || query == null) {
        return false;
      }
      int position = plan.positionAt(place);
      for (int number = 0; number < query.conditionCount(); number++) {
        Condition condition = query.conditionAt(number);
        if (condition != null && condition.position() == position
            && !condition.allows(table.cell(row, condition.column()))) {
          return false;
        }
      }
      for (int number = 0; number < query.joinCount(); number++) {
        Join join = query.joinAt(number);
        int partner = join == null ? NONE : join.partnerOf(position);
        if (join != null && plan.isAhead(partner, place)
            && heldAt(partner, join.columnOf(partner)) != table.cell(row, join.columnOf(position))) {
          return false;
        }
      }
      return true;
    }

    private void noteAnswer() {
      long code = 0;
      for (int position = 0; position < chosen.length; position++) {
        code = code * MOST_ROWS + chosen[position];
      }
      foundMark += (code + 1) * (code + 31);
      if (foundCount == wantedPlace && wantedPosition >= 0 && wantedPosition < chosen.length) {
        wantedRow = chosen[wantedPosition];
      }
      columnSum += heldAt(wantedPosition, wantedColumn);
      foundCount++;
    }
  }

  /** The rounds that were played, the coins, and the bans for the next round. */
  private static final class Duel {
    private final int[] purses = new int[DUELLISTS];
    private final int[] bans = new int[DUELLISTS];
    private final int[] missed = new int[DUELLISTS * MOST_ROUNDS];
    private int roundCount = 0;
    private int winner = NONE;
    private boolean openToAppeals = false;

    int roundCount() {
      return roundCount;
    }

    int winner() {
      return winner;
    }

    boolean isOpenToAppeals() {
      return openToAppeals;
    }

    void closeAppeals() {
      openToAppeals = false;
    }

    int purseOf(int duellist) {
      return duellist >= 0 && duellist < purses.length ? purses[duellist] : 0;
    }

    void give(int duellist, int coins) {
      if (duellist >= 0 && duellist < purses.length) {
        purses[duellist] = Math.max(0, purses[duellist] + coins);
      }
    }

    /** The indexes that are banned for a duellist, a bit for each. */
    int bansFor(int duellist) {
      return duellist >= 0 && duellist < bans.length ? bans[duellist] : 0;
    }

    void addBan(int duellist, int index) {
      if (duellist >= 0 && duellist < bans.length && index >= 0 && index < MOST_INDEXES) {
        bans[duellist] |= 1 << index;
      }
    }

    int missedIn(int duellist, int round) {
      boolean known = round >= 0 && round < roundCount && duellist >= 0 && duellist < DUELLISTS;
      int place = round * DUELLISTS + duellist;
      return known && place >= 0 && place < missed.length ? missed[place] : NONE;
    }

    int missedInAll(int duellist) {
      int all = 0;
      for (int round = 0; round < roundCount; round++) {
        all += missedIn(duellist, round);
      }
      return all;
    }

    void endRound(int byBook, int byCounts) {
      if (roundCount < MOST_ROUNDS) {
        roundCount++;
      }
      setResult(byBook, byCounts);
      pay(1);
      for (int duellist = 0; duellist < bans.length; duellist++) {
        bans[duellist] = 0;
      }
      openToAppeals = true;
    }

    void endAppeal(int appellant, int byBook, int byCounts) {
      int before = winner;
      pay(-1);
      setResult(byBook, byCounts);
      pay(1);
      if (winner == before) {
        give(appellant, -1);
      }
      openToAppeals = false;
    }

    private void setResult(int byBook, int byCounts) {
      int place = (roundCount - 1) * DUELLISTS;
      if (place >= 0 && place + 1 < missed.length) {
        missed[place] = byBook;
        missed[place + 1] = byCounts;
      }
      winner = byBook < byCounts ? 0 : byCounts < byBook ? 1 : NONE;
    }

    private void pay(int times) {
      if (winner == NONE) {
        give(0, times);
        give(1, times);
      } else {
        give(winner, PRIZE * times);
      }
    }
  }
}
