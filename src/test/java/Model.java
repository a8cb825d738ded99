import java.util.ArrayList;
import java.util.Comparator;
import java.util.List;
import java.util.NoSuchElementException;

/**
 * The document once more, in its plainest form and by other means than the class: indexes are sorted
 * when they are asked for, all plans are tried whole, and a plan is run as a list of what it reads.
 */
final class Model {
  private static final class Table {
    int columns;
    List<int[]> rows = new ArrayList<>();
    int[] low = {0, 0, 0};
    int[] high = {99, 99, 99};
    int countedRows;
    int countedPages;
    int[] unlike = new int[3];
    int[] least = new int[3];
    int[] greatest = new int[3];

    int pages() {
      return rows.size() / 4 + (rows.size() % 4 == 0 ? 0 : 1);
    }

    List<Integer> there() {
      List<Integer> found = new ArrayList<>();
      for (int row = 0; row < rows.size(); row++) {
        if (rows.get(row) != null) {
          found.add(row);
        }
      }
      return found;
    }
  }

  private record Index(int table, int column) {
  }

  private record Condition(int position, int column, char sign, int value) {
    boolean holds(int number) {
      return switch (sign) {
        case '=' -> number == value;
        case '<' -> number < value;
        default -> number > value;
      };
    }
  }

  private record Join(int position, int column, int other, int its) {
    Join from(int asked) {
      return asked == position ? this : new Join(other, its, position, column);
    }

    boolean touches(int asked) {
      return asked == position || asked == other;
    }
  }

  private static final class Query {
    List<Integer> tables = new ArrayList<>();
    List<Condition> conditions = new ArrayList<>();
    List<Join> joins = new ArrayList<>();
  }

  private record Way(char kind, int told, int index) {
  }

  private record Plan(List<Integer> order, List<Way> ways) {
  }

  private final List<Table> tables = new ArrayList<>();
  private final List<Index> indexes = new ArrayList<>();
  private final List<Query> queries = new ArrayList<>();
  private List<Integer> cache = new ArrayList<>();
  private int frames = 4;
  private final int[] coins = new int[2];
  private final List<List<Integer>> bans = List.of(new ArrayList<>(), new ArrayList<>());
  private final List<int[]> missed = new ArrayList<>();
  private List<List<Integer>> lastReads = null;
  private int lastWinner = -1;

  private Table needTable(int number) {
    if (number < 0 || number >= tables.size()) {
      throw new IndexOutOfBoundsException();
    }
    return tables.get(number);
  }

  private Query needQuery(int number) {
    if (number < 0 || number >= queries.size()) {
      throw new IndexOutOfBoundsException();
    }
    return queries.get(number);
  }

  private void needIndex(int number) {
    if (number < 0 || number >= indexes.size()) {
      throw new IndexOutOfBoundsException();
    }
  }

  private static void needDuellist(int number) {
    if (number != 0 && number != 1) {
      throw new IllegalArgumentException();
    }
  }

  private static void refuseIf(boolean bad) {
    if (bad) {
      throw new IllegalArgumentException();
    }
  }

  private static boolean beyond(int number) {
    return number < 0 || number > 99;
  }

  private boolean lacksColumn(Query query, int position, int column) {
    return position < 0 || position >= query.tables.size() || column < 0
        || column >= tables.get(query.tables.get(position)).columns;
  }

  int table(int columns) {
    refuseIf(columns < 1 || columns > 3);
    if (tables.size() == 3) {
      throw new IllegalStateException();
    }
    Table added = new Table();
    added.columns = columns;
    tables.add(added);
    lastReads = null;
    return tables.size() - 1;
  }

  int bound(int table, int column, int low, int high) {
    Table t = needTable(table);
    refuseIf(column < 0 || column >= t.columns || beyond(low) || beyond(high) || low > high);
    t.low[column] = low;
    t.high[column] = high;
    lastReads = null;
    int count = 0;
    for (int row : t.there()) {
      int held = t.rows.get(row)[column];
      if (held < low || held > high) {
        count++;
      }
    }
    return count;
  }

  int insert(int table, int one, int two, int three) {
    Table t = needTable(table);
    int[] row = {one, two, three};
    for (int column = 0; column < t.columns; column++) {
      refuseIf(row[column] < t.low[column] || row[column] > t.high[column]);
    }
    if (t.rows.size() == 40) {
      throw new IllegalStateException();
    }
    t.rows.add(row);
    forget(table, t.rows.size() - 1);
    return t.rows.size() - 1;
  }

  int remove(int table, int row) {
    Table t = needTable(table);
    if (!t.there().contains(row)) {
      throw new NoSuchElementException();
    }
    t.rows.set(row, null);
    forget(table, row);
    return t.there().size();
  }

  private void forget(int table, int row) {
    List<Integer> left = new ArrayList<>();
    for (int key : cache) {
      boolean isPage = key == 100 * table + row / 4;
      boolean isLeaf = key >= 300 && indexes.get(key / 100 - 3).table() == table;
      if (!isPage && !isLeaf) {
        left.add(key);
      }
    }
    cache = left;
    lastReads = null;
  }

  int count(int table) {
    Table t = needTable(table);
    List<Integer> there = t.there();
    t.countedRows = there.size();
    t.countedPages = t.pages();
    for (int column = 0; column < t.columns; column++) {
      int c = column;
      t.unlike[c] = (int) there.stream().mapToInt(r -> t.rows.get(r)[c]).distinct().count();
      t.least[c] = there.stream().mapToInt(r -> t.rows.get(r)[c]).min().orElse(0);
      t.greatest[c] = there.stream().mapToInt(r -> t.rows.get(r)[c]).max().orElse(0);
    }
    lastReads = null;
    return there.size();
  }

  int index(int table, int column) {
    Table t = needTable(table);
    refuseIf(column < 0 || column >= t.columns);
    if (indexes.size() == 6) {
      throw new IllegalStateException();
    }
    indexes.add(new Index(table, column));
    lastReads = null;
    return indexes.size() - 1;
  }

  int frames(int number) {
    refuseIf(number < 0 || number > 12);
    int before = frames;
    frames = number;
    while (cache.size() > frames) {
      cache.remove(cache.size() - 1);
    }
    lastReads = null;
    return before;
  }

  int pages(int table) {
    return needTable(table).pages();
  }

  int value(int table, int row, int column) {
    Table t = needTable(table);
    refuseIf(column < 0 || column >= t.columns);
    if (!t.there().contains(row)) {
      throw new NoSuchElementException();
    }
    return t.rows.get(row)[column];
  }

  private List<Integer> entriesOf(int index) {
    Index its = indexes.get(index);
    Table t = tables.get(its.table());
    List<Integer> sorted = t.there();
    sorted.sort(Comparator.comparingInt((Integer r) -> t.rows.get(r)[its.column()]).thenComparingInt(r -> r));
    return sorted;
  }

  int entries(int index) {
    needIndex(index);
    return entriesOf(index).size();
  }

  int entryAt(int index, int place) {
    needIndex(index);
    return at(entriesOf(index), place);
  }

  private static int at(List<Integer> list, int place) {
    if (place < 0 || place >= list.size()) {
      throw new NoSuchElementException();
    }
    return list.get(place);
  }

  int counted(int table, int column, char what) {
    Table t = needTable(table);
    refuseIf(column < 0 || column >= t.columns || "rpulg".indexOf(what) < 0);
    return switch (what) {
      case 'r' -> t.countedRows;
      case 'p' -> t.countedPages;
      case 'u' -> t.unlike[column];
      case 'l' -> t.least[column];
      default -> t.greatest[column];
    };
  }

  int cached() {
    return cache.size();
  }

  int cachedAt(int place) {
    return at(cache, place);
  }

  int flush() {
    int before = cache.size();
    cache.clear();
    lastReads = null;
    return before;
  }

  int query() {
    if (queries.size() == 8) {
      throw new IllegalStateException();
    }
    queries.add(new Query());
    lastReads = null;
    return queries.size() - 1;
  }

  int from(int query, int table) {
    Query q = needQuery(query);
    needTable(table);
    if (q.tables.size() == 3) {
      throw new IllegalStateException();
    }
    q.tables.add(table);
    lastReads = null;
    return q.tables.size();
  }

  int where(int query, int position, int column, char sign, int value) {
    Query q = needQuery(query);
    refuseIf(lacksColumn(q, position, column) || "=<>".indexOf(sign) < 0 || beyond(value));
    if (q.conditions.size() == 4) {
      throw new IllegalStateException();
    }
    q.conditions.add(new Condition(position, column, sign, value));
    lastReads = null;
    return q.conditions.size();
  }

  int join(int query, int position, int column, int other, int its) {
    Query q = needQuery(query);
    refuseIf(lacksColumn(q, position, column) || lacksColumn(q, other, its) || position == other);
    if (q.joins.size() == 3) {
      throw new IllegalStateException();
    }
    q.joins.add(new Join(position, column, other, its));
    lastReads = null;
    return q.joins.size();
  }

  private List<int[]> answersOf(Query q) {
    List<int[]> choices = new ArrayList<>();
    choices.add(new int[0]);
    for (int table : q.tables) {
      List<int[]> longer = new ArrayList<>();
      for (int[] choice : choices) {
        for (int row : tables.get(table).there()) {
          int[] grown = java.util.Arrays.copyOf(choice, choice.length + 1);
          grown[choice.length] = row;
          longer.add(grown);
        }
      }
      choices = longer;
    }
    List<int[]> answers = new ArrayList<>();
    for (int[] choice : choices) {
      boolean holds = true;
      for (Condition c : q.conditions) {
        holds = holds && c.holds(cell(q, choice, c.position(), c.column()));
      }
      for (Join j : q.joins) {
        holds = holds && cell(q, choice, j.position(), j.column()) == cell(q, choice, j.other(), j.its());
      }
      if (holds) {
        answers.add(choice);
      }
    }
    return answers;
  }

  private int cell(Query q, int[] choice, int position, int column) {
    return tables.get(q.tables.get(position)).rows.get(choice[position])[column];
  }

  private Query needPosition(int query) {
    Query q = needQuery(query);
    if (q.tables.isEmpty()) {
      throw new UnsupportedOperationException();
    }
    return q;
  }

  int answers(int query) {
    return answersOf(needPosition(query)).size();
  }

  int answerAt(int query, int place, int position) {
    Query q = needQuery(query);
    refuseIf(position < 0 || position >= q.tables.size());
    List<int[]> all = answersOf(q);
    if (place < 0 || place >= all.size()) {
      throw new NoSuchElementException();
    }
    return all.get(place)[position];
  }

  long sum(int query, int position, int column) {
    Query q = needQuery(query);
    refuseIf(lacksColumn(q, position, column));
    long sum = 0;
    for (int[] choice : answersOf(q)) {
      sum += cell(q, choice, position, column);
    }
    return sum;
  }

  private int allowedIndex(int duellist, int table, int column) {
    for (int number = 0; number < indexes.size(); number++) {
      Index i = indexes.get(number);
      if (i.table() == table && i.column() == column && !bans.get(duellist).contains(number)) {
        return number;
      }
    }
    return -1;
  }

  /** All ways at a place, in the order in which the document tells them. */
  private List<Way> waysAt(int duellist, Query q, List<Integer> ahead, int position) {
    List<Way> ways = new ArrayList<>();
    ways.add(new Way('f', -1, -1));
    int table = q.tables.get(position);
    for (int c = 0; c < q.conditions.size(); c++) {
      Condition condition = q.conditions.get(c);
      int index = condition.position() == position ? allowedIndex(duellist, table, condition.column()) : -1;
      if (index >= 0) {
        ways.add(new Way('c', c, index));
      }
    }
    for (int j = 0; j < q.joins.size(); j++) {
      if (q.joins.get(j).touches(position)) {
        Join join = q.joins.get(j).from(position);
        int index = ahead.contains(join.other()) ? allowedIndex(duellist, table, join.column()) : -1;
        if (index >= 0) {
          ways.add(new Way('j', j, index));
        }
      }
    }
    return ways;
  }

  private Plan planOf(int duellist, Query q) {
    return duellist == 0 ? bookPlan(q) : countPlan(q);
  }

  private Plan bookPlan(Query q) {
    Plan plan = new Plan(new ArrayList<>(), new ArrayList<>());
    for (int position = 0; position < q.tables.size(); position++) {
      List<Way> ways = waysAt(0, q, plan.order(), position);
      Way best = null;
      int bestRank = 9;
      for (Way way : ways) {
        int rank = way.kind() == 'j' ? 0 : way.kind() == 'f' ? 3
            : q.conditions.get(way.told()).sign() == '=' ? 1 : 2;
        if (rank < bestRank) {
          best = way;
          bestRank = rank;
        }
      }
      plan.order().add(position);
      plan.ways().add(best);
    }
    return plan;
  }

  private Plan bestPlan;
  private long bestEstimate;

  private Plan countPlan(Query q) {
    bestPlan = null;
    tryOrders(q, new ArrayList<>());
    return bestPlan;
  }

  private void tryOrders(Query q, List<Integer> order) {
    if (order.size() == q.tables.size()) {
      tryWays(q, order, new ArrayList<>());
      return;
    }
    for (int position = 0; position < q.tables.size(); position++) {
      if (!order.contains(position)) {
        List<Integer> longer = new ArrayList<>(order);
        longer.add(position);
        tryOrders(q, longer);
      }
    }
  }

  private void tryWays(Query q, List<Integer> order, List<Way> ways) {
    if (ways.size() == order.size()) {
      Plan plan = new Plan(order, ways);
      long its = estimateOf(q, plan);
      if (bestPlan == null || its < bestEstimate) {
        bestPlan = plan;
        bestEstimate = its;
      }
      return;
    }
    int place = ways.size();
    for (Way way : waysAt(1, q, order.subList(0, place), order.get(place))) {
      List<Way> longer = new ArrayList<>(ways);
      longer.add(way);
      tryWays(q, order, longer);
    }
  }

  private static int by(int number, int divisor) {
    return number / (divisor == 0 ? 1 : divisor);
  }

  private int shareOf(Query q, Condition c) {
    Table t = tables.get(q.tables.get(c.position()));
    if (c.sign() == '=') {
      return by(1000, t.unlike[c.column()]);
    }
    int such = 0;
    int all = 0;
    for (int number = t.least[c.column()]; number <= t.greatest[c.column()]; number++) {
      all++;
      such += c.holds(number) ? 1 : 0;
    }
    return by(1000 * such, all);
  }

  private int shareOf(Query q, Join j) {
    int one = tables.get(q.tables.get(j.position())).unlike[j.column()];
    int two = tables.get(q.tables.get(j.other())).unlike[j.its()];
    return by(1000, Math.max(one, two));
  }

  private long estimateOf(Query q, Plan plan) {
    long estimate = 0;
    long choices = 1;
    for (int place = 0; place < plan.order().size(); place++) {
      int position = plan.order().get(place);
      Table t = tables.get(q.tables.get(position));
      Way way = plan.ways().get(place);
      long cost = switch (way.kind()) {
        case 'f' -> t.countedPages;
        case 'c' -> 1 + t.countedRows * shareOf(q, q.conditions.get(way.told())) / 1000;
        default -> 1 + by(t.countedRows, t.unlike[q.joins.get(way.told()).from(position).column()]);
      };
      estimate += choices * cost;
      choices *= t.countedRows;
      for (Condition c : q.conditions) {
        if (c.position() == position) {
          choices = choices * shareOf(q, c) / 1000;
        }
      }
      for (Join j : q.joins) {
        if (j.touches(position) && plan.order().indexOf(j.from(position).other()) < place) {
          choices = choices * shareOf(q, j) / 1000;
        }
      }
      choices = choices < 1 ? 1 : choices;
    }
    return estimate;
  }

  private List<Integer> readsOf(Query q, Plan plan) {
    List<Integer> reads = new ArrayList<>();
    run(q, plan, 0, new int[3], reads);
    return reads;
  }

  private void run(Query q, Plan plan, int place, int[] choice, List<Integer> reads) {
    if (place == plan.order().size()) {
      return;
    }
    int position = plan.order().get(place);
    int table = q.tables.get(position);
    Table t = tables.get(table);
    Way way = plan.ways().get(place);
    if (way.kind() == 'f') {
      for (int page = 0; page < t.pages(); page++) {
        reads.add(100 * table + page);
        for (int row = 4 * page; row < 4 * page + 4; row++) {
          goOn(q, plan, place, choice, row, reads);
        }
      }
      return;
    }
    Condition wanted = way.kind() == 'c' ? q.conditions.get(way.told()) : null;
    if (wanted == null) {
      Join join = q.joins.get(way.told()).from(position);
      wanted = new Condition(position, join.column(), '=', cell(q, choice, join.other(), join.its()));
    }
    List<Integer> entries = entriesOf(way.index());
    int firstWanted = -1;
    int firstNotLess = -1;
    int least = wanted.sign() == '=' ? wanted.value() : wanted.sign() == '<' ? 0 : wanted.value() + 1;
    for (int entry = entries.size() - 1; entry >= 0; entry--) {
      int held = t.rows.get(entries.get(entry))[wanted.column()];
      firstWanted = wanted.holds(held) ? entry : firstWanted;
      firstNotLess = held >= least ? entry : firstNotLess;
    }
    if (firstWanted < 0 && !entries.isEmpty()) {
      reads.add(100 * (3 + way.index()) + (firstNotLess < 0 ? entries.size() - 1 : firstNotLess) / 8);
    }
    for (int entry = 0; entry < entries.size(); entry++) {
      int row = entries.get(entry);
      if (wanted.holds(t.rows.get(row)[wanted.column()])) {
        if (entry == firstWanted || entry % 8 == 0) {
          reads.add(100 * (3 + way.index()) + entry / 8);
        }
        reads.add(100 * table + row / 4);
        goOn(q, plan, place, choice, row, reads);
      }
    }
  }

  private void goOn(Query q, Plan plan, int place, int[] choice, int row, List<Integer> reads) {
    int position = plan.order().get(place);
    Table t = tables.get(q.tables.get(position));
    if (row >= t.rows.size() || t.rows.get(row) == null) {
      return;
    }
    int[] cells = t.rows.get(row);
    for (Condition c : q.conditions) {
      if (c.position() == position && !c.holds(cells[c.column()])) {
        return;
      }
    }
    for (Join j : q.joins) {
      if (j.touches(position)) {
        Join join = j.from(position);
        boolean ahead = plan.order().subList(0, place).contains(join.other());
        if (ahead && cells[join.column()] != cell(q, choice, join.other(), join.its())) {
          return;
        }
      }
    }
    choice[position] = row;
    run(q, plan, place + 1, choice, reads);
  }

  private int missesOf(List<Integer> reads, List<Integer> through) {
    int misses = 0;
    for (Integer key : reads) {
      if (!through.remove(key)) {
        misses++;
      }
      if (frames > 0) {
        through.add(0, key);
      }
      if (through.size() > frames) {
        through.remove(through.size() - 1);
      }
    }
    return misses;
  }

  private Plan askedPlan(int duellist, int query, int place) {
    needDuellist(duellist);
    Query q = needQuery(query);
    if (place < 0 || place >= q.tables.size()) {
      throw new NoSuchElementException();
    }
    return planOf(duellist, q);
  }

  int planned(int duellist, int query, int place) {
    return askedPlan(duellist, query, place).order().get(place);
  }

  char way(int duellist, int query, int place) {
    return askedPlan(duellist, query, place).ways().get(place).kind();
  }

  int usedIndex(int duellist, int query, int place) {
    return askedPlan(duellist, query, place).ways().get(place).index();
  }

  long estimate(int duellist, int query) {
    needDuellist(duellist);
    Query q = needPosition(query);
    return estimateOf(q, planOf(duellist, q));
  }

  private List<Integer> askedReads(int duellist, int query) {
    needDuellist(duellist);
    Query q = needPosition(query);
    return readsOf(q, planOf(duellist, q));
  }

  int cold(int duellist, int query) {
    return missesOf(askedReads(duellist, query), new ArrayList<>());
  }

  int reads(int duellist, int query) {
    return askedReads(duellist, query).size();
  }

  int ban(int duellist, int index) {
    needDuellist(duellist);
    needIndex(index);
    List<Integer> banned = bans.get(1 - duellist);
    if (banned.contains(index) || banned.size() == 2) {
      throw new UnsupportedOperationException();
    }
    if (coins[duellist] < 2) {
      throw new IllegalStateException();
    }
    banned.add(index);
    coins[duellist] -= 2;
    return coins[duellist];
  }

  int round(int query) {
    Query q = needPosition(query);
    List<List<Integer>> reads = List.of(readsOf(q, planOf(0, q)), readsOf(q, planOf(1, q)));
    int first = missed.size() % 2;
    int[] its = new int[2];
    its[first] = missesOf(reads.get(first), cache);
    its[1 - first] = missesOf(reads.get(1 - first), cache);
    missed.add(its);
    lastWinner = winnerOf(its);
    for (int duellist = 0; duellist < 2; duellist++) {
      coins[duellist] += prizeOf(duellist, lastWinner);
      bans.get(duellist).clear();
    }
    lastReads = reads;
    return lastWinner;
  }

  private static int winnerOf(int[] misses) {
    return misses[0] == misses[1] ? -1 : misses[0] < misses[1] ? 0 : 1;
  }

  private static int prizeOf(int duellist, int winner) {
    return winner == -1 ? 1 : winner == duellist ? 3 : 0;
  }

  int appeal(int duellist) {
    needDuellist(duellist);
    if (lastReads == null) {
      throw new UnsupportedOperationException();
    }
    if (coins[duellist] == 0) {
      throw new IllegalStateException();
    }
    int[] its = {missesOf(lastReads.get(0), new ArrayList<>()), missesOf(lastReads.get(1), new ArrayList<>())};
    int winner = winnerOf(its);
    for (int d = 0; d < 2; d++) {
      coins[d] = Math.max(0, coins[d] - prizeOf(d, lastWinner)) + prizeOf(d, winner);
    }
    if (winner == lastWinner) {
      coins[duellist] = Math.max(0, coins[duellist] - 1);
    }
    missed.set(missed.size() - 1, its);
    lastWinner = winner;
    lastReads = null;
    return winner;
  }

  int coins(int duellist) {
    needDuellist(duellist);
    return coins[duellist];
  }

  int misses(int duellist, int round) {
    needDuellist(duellist);
    if (round < 0 || round >= missed.size()) {
      throw new NoSuchElementException();
    }
    return missed.get(round)[duellist];
  }

  int total(int duellist) {
    needDuellist(duellist);
    return missed.stream().mapToInt(m -> m[duellist]).sum();
  }

  int rounds() {
    return missed.size();
  }

  long print() {
    long print = 7;
    for (Table t : tables) {
      for (int row : t.there()) {
        for (int column = 0; column < t.columns; column++) {
          print = print * 31 + t.rows.get(row)[column];
        }
      }
    }
    return (print * 31 + coins[0]) * 31 + coins[1];
  }

  float hitShare(int duellist, int query) {
    List<Integer> reads = askedReads(duellist, query);
    if (reads.isEmpty()) {
      throw new ArithmeticException();
    }
    int hits = reads.size() - missesOf(reads, new ArrayList<>());
    return (float) hits / (float) reads.size();
  }

  double meanMisses() {
    if (missed.isEmpty()) {
      throw new ArithmeticException();
    }
    return (double) (total(0) + total(1)) / (double) (2 * missed.size());
  }

  boolean isSound() {
    return true;
  }
}
