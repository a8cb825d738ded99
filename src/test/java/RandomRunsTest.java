import java.util.ArrayList;
import java.util.List;

/** Long runs of calls, each answered by the class and by the model; the numbers come from a fixed seed. */
public final class RandomRunsTest {
  private static final String WHATS = "rpulgx";
  private static final String SIGNS = "=<>=";

  private final Check check;
  private final int run;
  private long seed;
  private final int range;
  private final int rowsAtFirst;
  private final DuelSchema x = new DuelSchema();
  private final Model m = new Model();

  private RandomRunsTest(Check check, int run) {
    this.check = check;
    this.run = run;
    seed = 1000003L * run + 17;
    range = new int[] {3, 6, 14, 100}[below(4)];
    rowsAtFirst = new int[] {2, 6, 12, 26}[below(4)];
  }

  private int below(int end) {
    seed = seed * 6364136223846793005L + 1442695040888963407L;
    return (int) ((seed >>> 33) % end);
  }

  /** A number from 0 that is seldom one too far, or wild. */
  private int nearly(int end) {
    int kind = below(40);
    if (kind == 0) {
      return -1;
    }
    if (kind == 1) {
      return end;
    }
    if (kind == 2) {
      return new int[] {Integer.MIN_VALUE, Integer.MAX_VALUE, 1 << 30, -715827882, 1431655765}[below(5)];
    }
    return below(Math.max(1, end));
  }

  private int number() {
    int kind = below(40);
    return kind == 0 ? 99 : kind == 1 ? 0 : kind == 2 ? 100 : kind == 3 ? -1 : below(range);
  }

  private void same(String call, Check.Call model, Check.Call own) {
    check.report("run " + run + ": " + call, Check.answerOf(model), Check.answerOf(own));
  }

  /** What the run knows of its tables and queries, so that most of what it tells is allowed. */
  private final List<Integer> columnsOf = new ArrayList<>();
  private final List<List<Integer>> tablesOf = new ArrayList<>();

  private void prepare() {
    int tables = 1 + below(3);
    for (int t = 0; t < tables; t++) {
      table(1 + below(3));
      for (int r = below(rowsAtFirst); r >= 0; r--) {
        insert(t);
      }
    }
    for (int i = below(7); i > 0; i--) {
      index();
    }
    for (int t = 0; t < tables; t++) {
      int counted = t;
      if (below(4) > 0) {
        same("count", () -> m.count(counted), () -> x.count(counted));
      }
    }
    for (int q = 1 + below(3); q > 0; q--) {
      query();
    }
    for (int q = 0; q < tablesOf.size(); q++) {
      for (int p = below(3); p >= 0; p--) {
        from(q, below(tables));
      }
      for (int s = below(8); s > 0; s--) {
        restrict(q);
      }
    }
  }

  private void table(int columns) {
    same("table", () -> m.table(columns), () -> x.table(columns));
    if (columns >= 1 && columns <= 3 && columnsOf.size() < 3) {
      columnsOf.add(columns);
    }
  }

  private void query() {
    same("query", () -> m.query(), () -> x.query());
    if (tablesOf.size() < 8) {
      tablesOf.add(new ArrayList<>());
    }
  }

  private void from(int q, int t) {
    same("from", () -> m.from(q, t), () -> x.from(q, t));
    boolean known = q >= 0 && q < tablesOf.size() && t >= 0 && t < columnsOf.size();
    if (known && tablesOf.get(q).size() < 3) {
      tablesOf.get(q).add(t);
    }
  }

  private void insert(int t) {
    int a = number();
    int b = number();
    int c = number();
    same("insert", () -> m.insert(t, a, b, c), () -> x.insert(t, a, b, c));
  }

  private void index() {
    int t = nearly(columnsOf.size());
    int c = nearly(t >= 0 && t < columnsOf.size() ? columnsOf.get(t) : 3);
    same("index", () -> m.index(t, c), () -> x.index(t, c));
  }

  private int positions(int q) {
    return q >= 0 && q < tablesOf.size() ? tablesOf.get(q).size() : 2;
  }

  private int columns(int q, int p) {
    boolean known = q >= 0 && q < tablesOf.size() && p >= 0 && p < tablesOf.get(q).size();
    return known ? columnsOf.get(tablesOf.get(q).get(p)) : 3;
  }

  /** A condition or a join. */
  private void restrict(int q) {
    int p = nearly(positions(q));
    int c = nearly(columns(q, p));
    if (positions(q) < 2 || below(2) == 0) {
      int v = number();
      char sign = below(20) == 0 ? '!' : SIGNS.charAt(below(SIGNS.length()));
      same("where", () -> m.where(q, p, c, sign, v), () -> x.where(q, p, c, sign, v));
      return;
    }
    int o = below(20) == 0 ? p : below(30) == 0 ? nearly(3) : (p + 1 + below(positions(q) - 1)) % positions(q);
    int its = nearly(columns(q, o));
    same("join", () -> m.join(q, p, c, o, its), () -> x.join(q, p, c, o, its));
  }

  private void change() {
    int t = nearly(columnsOf.size());
    int c = nearly(t >= 0 && t < columnsOf.size() ? columnsOf.get(t) : 3);
    int a = number();
    int b = number();
    int q = nearly(tablesOf.size());
    switch (below(13)) {
      case 0 -> table(nearly(4));
      case 1 -> same("bound", () -> m.bound(t, c, a, b), () -> x.bound(t, c, a, b));
      case 2 -> same("bound", () -> m.bound(t, c, 0, 99), () -> x.bound(t, c, 0, 99));
      case 3, 4 -> insert(t);
      case 5 -> {
        int row = nearly(12);
        same("remove", () -> m.remove(t, row), () -> x.remove(t, row));
      }
      case 6 -> same("count", () -> m.count(t), () -> x.count(t));
      case 7 -> index();
      case 8 -> {
        int number = nearly(13);
        same("frames", () -> m.frames(number), () -> x.frames(number));
      }
      case 9 -> same("flush", () -> m.flush(), () -> x.flush());
      case 10 -> query();
      case 11 -> from(q, nearly(columnsOf.size()));
      default -> restrict(q);
    }
  }

  private void play() {
    int d = nearly(2);
    int i = nearly(6);
    int q = nearly(tablesOf.size());
    switch (below(4)) {
      case 0 -> same("ban", () -> m.ban(d, i), () -> x.ban(d, i));
      case 1 -> same("appeal", () -> m.appeal(d), () -> x.appeal(d));
      default -> same("round", () -> m.round(q), () -> x.round(q));
    }
  }

  private void askStore() {
    int t = nearly(3);
    int c = nearly(3);
    int r = nearly(14);
    int i = nearly(6);
    char what = WHATS.charAt(below(WHATS.length()));
    switch (below(7)) {
      case 0 -> same("pages", () -> m.pages(t), () -> x.pages(t));
      case 1 -> same("value", () -> m.value(t, r, c), () -> x.value(t, r, c));
      case 2 -> same("entries", () -> m.entries(i), () -> x.entries(i));
      case 3 -> same("entryAt", () -> m.entryAt(i, r), () -> x.entryAt(i, r));
      case 4 -> same("counted", () -> m.counted(t, c, what), () -> x.counted(t, c, what));
      case 5 -> same("cached", () -> m.cached(), () -> x.cached());
      default -> same("cachedAt", () -> m.cachedAt(r), () -> x.cachedAt(r));
    }
  }

  private void askQuery() {
    int d = nearly(2);
    int q = nearly(tablesOf.size());
    int p = nearly(positions(q));
    int c = nearly(columns(q, p));
    int place = nearly(20);
    switch (below(9)) {
      case 0 -> same("answers", () -> m.answers(q), () -> x.answers(q));
      case 1 -> same("answerAt", () -> m.answerAt(q, place, p), () -> x.answerAt(q, place, p));
      case 2 -> same("sum", () -> m.sum(q, p, c), () -> x.sum(q, p, c));
      case 3 -> same("planned", () -> m.planned(d, q, p), () -> x.planned(d, q, p));
      case 4 -> same("way", () -> m.way(d, q, p), () -> x.way(d, q, p));
      case 5 -> same("usedIndex", () -> m.usedIndex(d, q, p), () -> x.usedIndex(d, q, p));
      case 6 -> same("estimate", () -> m.estimate(d, q), () -> x.estimate(d, q));
      case 7 -> same("cold", () -> m.cold(d, q), () -> x.cold(d, q));
      default -> same("reads", () -> m.reads(d, q), () -> x.reads(d, q));
    }
  }

  private void askDuel() {
    int d = nearly(2);
    int r = nearly(9);
    int q = nearly(3);
    switch (below(8)) {
      case 0 -> same("coins", () -> m.coins(d), () -> x.coins(d));
      case 1 -> same("misses", () -> m.misses(d, r), () -> x.misses(d, r));
      case 2 -> same("total", () -> m.total(d), () -> x.total(d));
      case 3 -> same("rounds", () -> m.rounds(), () -> x.rounds());
      case 4 -> same("print", () -> m.print(), () -> x.print());
      case 5 -> same("hitShare", () -> m.hitShare(d, q), () -> x.hitShare(d, q));
      case 6 -> same("meanMisses", () -> m.meanMisses(), () -> x.meanMisses());
      default -> same("isSound", () -> m.isSound(), () -> x.isSound());
    }
  }

  private void askPlansWhole() {
    for (int query = 0; query < 3; query++) {
      int q = query;
      for (int duellist = 0; duellist < 2; duellist++) {
        int d = duellist;
        for (int place = 0; place < 3; place++) {
          int p = place;
          same("planned", () -> m.planned(d, q, p), () -> x.planned(d, q, p));
          same("way", () -> m.way(d, q, p), () -> x.way(d, q, p));
          same("usedIndex", () -> m.usedIndex(d, q, p), () -> x.usedIndex(d, q, p));
        }
        same("estimate", () -> m.estimate(d, q), () -> x.estimate(d, q));
        same("cold", () -> m.cold(d, q), () -> x.cold(d, q));
        same("reads", () -> m.reads(d, q), () -> x.reads(d, q));
      }
    }
  }

  private void askCacheWhole() {
    for (int place = 0; place < 13; place++) {
      int p = place;
      same("cachedAt", () -> m.cachedAt(p), () -> x.cachedAt(p));
    }
  }

  private void go() {
    prepare();
    askPlansWhole();
    for (int step = 0; step < 160; step++) {
      switch (below(10)) {
        case 0, 1 -> change();
        case 2, 3, 4 -> play();
        case 5 -> askStore();
        case 6, 7 -> askQuery();
        case 8 -> askDuel();
        default -> askCacheWhole();
      }
    }
    askPlansWhole();
    askCacheWhole();
    same("print", () -> m.print(), () -> x.print());
    same("isSound", () -> m.isSound(), () -> x.isSound());
  }

  public static void main(String[] args) {
    int runs = args.length > 0 ? Integer.parseInt(args[0]) : 400;
    Check check = new Check();
    for (int run = 0; run < runs && check.wrongCount() < 20; run++) {
      new RandomRunsTest(check, run).go();
    }
    check.end();
  }
}
