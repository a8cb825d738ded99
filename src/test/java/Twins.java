import java.util.ArrayList;
import java.util.List;

/**
 * Two objects that are told the same. One of them is then refused a call, or asked something that changes
 * nothing, and both must answer alike behind it: what can be asked, and also what shows only as more is told
 * (bounds, room that is left, bans, whether an appeal is open). So each probe has twins of its own.
 */
final class Twins {
  interface Telling {
    void to(DuelSchema x);
  }

  interface Asking {
    Object of(DuelSchema x);
  }

  /** What is asked or told behind the call, with each answer. */
  private interface Probe {
    void into(List<String> answers, DuelSchema x);
  }

  private static final Probe[] PROBES = {
    Twins::askTables, Twins::askIndexes, Twins::askQueries, Twins::askPlans, Twins::askDuel,
    (answers, x) -> tellAppeal(answers, x, 0), (answers, x) -> tellAppeal(answers, x, 1),
    Twins::tellAll, Twins::tellRows, Twins::tellRounds
  };

  private final Check check;

  Twins(Check check) {
    this.check = check;
  }

  void refused(String call, Class<? extends RuntimeException> want, Telling told, Asking asked) {
    for (Probe probe : PROBES) {
      DuelSchema x = made(told);
      check.fails(call, want, () -> asked.of(x));
      compare(call, probe, x, made(told));
    }
  }

  void unchanged(String call, Telling told, Asking asked) {
    for (Probe probe : PROBES) {
      DuelSchema x = made(told);
      Check.answerOf(() -> asked.of(x));
      compare(call, probe, x, made(told));
    }
  }

  private static DuelSchema made(Telling told) {
    DuelSchema x = new DuelSchema();
    told.to(x);
    return x;
  }

  private void compare(String call, Probe probe, DuelSchema asked, DuelSchema left) {
    List<String> got = new ArrayList<>();
    List<String> want = new ArrayList<>();
    probe.into(got, asked);
    probe.into(want, left);
    for (int line = 0; line < want.size(); line++) {
      if (!want.get(line).equals(got.get(line))) {
        check.report(call + ", and behind it", want.get(line), got.get(line));
        return;
      }
    }
    check.report(call + ", and behind it", "" + want.size(), "" + got.size());
  }

  private static void add(List<String> answers, String call, Check.Call made) {
    answers.add(call + " = " + Check.answerOf(made));
  }

  private static void askTables(List<String> answers, DuelSchema x) {
    for (int table = 0; table < 3; table++) {
      int t = table;
      add(answers, "pages " + t, () -> x.pages(t));
      for (int column = 0; column < 3; column++) {
        int c = column;
        for (char what : "rpulg".toCharArray()) {
          add(answers, "counted " + t + c + what, () -> x.counted(t, c, what));
        }
        for (int row = 0; row < 40; row++) {
          int r = row;
          add(answers, "value " + t + " " + r + " " + c, () -> x.value(t, r, c));
        }
      }
    }
    add(answers, "print", x::print);
  }

  private static void askIndexes(List<String> answers, DuelSchema x) {
    for (int index = 0; index < 6; index++) {
      int i = index;
      add(answers, "entries " + i, () -> x.entries(i));
      for (int place = 0; place < 41; place++) {
        int p = place;
        add(answers, "entryAt " + i + " " + p, () -> x.entryAt(i, p));
      }
    }
    askCache(answers, x);
  }

  private static void askCache(List<String> answers, DuelSchema x) {
    add(answers, "cached", x::cached);
    for (int place = 0; place < 12; place++) {
      int p = place;
      add(answers, "cachedAt " + p, () -> x.cachedAt(p));
    }
  }

  private static void askQueries(List<String> answers, DuelSchema x) {
    for (int query = 0; query < 8; query++) {
      int q = query;
      add(answers, "answers " + q, () -> x.answers(q));
      for (int position = 0; position < 3; position++) {
        int p = position;
        for (int column = 0; column < 3; column++) {
          int c = column;
          add(answers, "sum " + q + p + c, () -> x.sum(q, p, c));
        }
        for (int place = 0; place < 4; place++) {
          int at = place;
          add(answers, "answerAt " + q + at + p, () -> x.answerAt(q, at, p));
        }
      }
    }
  }

  private static void askPlans(List<String> answers, DuelSchema x) {
    for (int query = 0; query < 8; query++) {
      for (int duellist = 0; duellist < 2; duellist++) {
        int q = query;
        int d = duellist;
        for (int place = 0; place < 3; place++) {
          int p = place;
          add(answers, "planned " + d + q + p, () -> x.planned(d, q, p));
          add(answers, "way " + d + q + p, () -> x.way(d, q, p));
          add(answers, "usedIndex " + d + q + p, () -> x.usedIndex(d, q, p));
        }
        add(answers, "estimate " + d + q, () -> x.estimate(d, q));
        add(answers, "cold " + d + q, () -> x.cold(d, q));
        add(answers, "reads " + d + q, () -> x.reads(d, q));
        add(answers, "hitShare " + d + q, () -> x.hitShare(d, q));
      }
    }
  }

  private static void askDuel(List<String> answers, DuelSchema x) {
    add(answers, "rounds", x::rounds);
    for (int duellist = 0; duellist < 2; duellist++) {
      int d = duellist;
      add(answers, "coins " + d, () -> x.coins(d));
      add(answers, "total " + d, () -> x.total(d));
      for (int round = 0; round < 12; round++) {
        int r = round;
        add(answers, "misses " + d + " " + r, () -> x.misses(d, r));
      }
    }
    add(answers, "meanMisses", x::meanMisses);
    add(answers, "isSound", x::isSound);
  }

  private static void tellAppeal(List<String> answers, DuelSchema x, int duellist) {
    add(answers, "appeal " + duellist, () -> x.appeal(duellist));
    askDuel(answers, x);
    askCache(answers, x);
  }

  /** Shows what room is left for tables, indexes, queries, and what these hold, and the frames. */
  private static void tellAll(List<String> answers, DuelSchema x) {
    for (int table = 0; table < 4; table++) {
      add(answers, "table", () -> x.table(2));
    }
    for (int index = 0; index < 7; index++) {
      add(answers, "index", () -> x.index(0, 0));
    }
    for (int query = 0; query < 9; query++) {
      int q = query;
      add(answers, "query", x::query);
      for (int again = 0; again < 5; again++) {
        add(answers, "from " + q, () -> x.from(q, 0));
        add(answers, "where " + q, () -> x.where(q, 0, 0, '<', 3));
        add(answers, "join " + q, () -> x.join(q, 0, 0, 1, 0));
      }
    }
    add(answers, "frames", () -> x.frames(12));
    add(answers, "flush", x::flush);
  }

  /** Shows the bounds, and what row comes next. */
  private static void tellRows(List<String> answers, DuelSchema x) {
    for (int table = 0; table < 3; table++) {
      for (int column = 0; column < 3; column++) {
        for (int value : new int[] {0, 1, 4, 6, 10, 60, 61, 98, 99}) {
          int t = table;
          int[] row = {5, 5, 5};
          row[column] = value;
          add(answers, "insert " + t + column + " " + value, () -> x.insert(t, row[0], row[1], row[2]));
        }
      }
    }
    for (int table = 0; table < 3; table++) {
      int t = table;
      add(answers, "remove " + t, () -> x.remove(t, 0));
      add(answers, "count " + t, () -> x.count(t));
    }
  }

  /** Shows the bans and the coins that are left, who is first, and what is in the cache. */
  private static void tellRounds(List<String> answers, DuelSchema x) {
    for (int query = 0; query < 8; query++) {
      int q = query;
      add(answers, "round " + q, () -> x.round(q));
      askCache(answers, x);
    }
    for (int index = 0; index < 6; index++) {
      int i = index;
      add(answers, "ban by 0 of " + i, () -> x.ban(0, i));
      add(answers, "ban by 1 of " + i, () -> x.ban(1, i));
    }
    askDuel(answers, x);
  }
}
