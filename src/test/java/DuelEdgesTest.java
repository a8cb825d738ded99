/** The edges that the document names for promises 30 to 36: bans, rounds, appeals, coins and misses. */
public final class DuelEdgesTest {
  private static final int TIE = 0;
  private static final int LEAF = 1;
  private static final int ROWS = 2;
  private static final int PAGES = 3;

  private final Check check;

  private DuelEdgesTest(Check check) {
    this.check = check;
  }

  /**
   * Table 0: so many rows of 1, with the indexes 0 to 2; table 1: no rows. Nothing is counted, so that the
   * duellist 1 goes through all pages. The queries: TIE reads nothing; for LEAF the duellist 0 reads a leaf
   * alone; for ROWS it reads leaves and a page for each row; for PAGES it reads all pages.
   */
  private static DuelSchema ready(int rows) {
    DuelSchema x = new DuelSchema();
    x.table(1);
    x.table(1);
    for (int row = 0; row < rows; row++) {
      x.insert(0, 1, 0, 0);
    }
    x.index(0, 0);
    x.index(0, 0);
    x.index(0, 0);
    for (int query = TIE; query <= PAGES; query++) {
      x.query();
      x.from(query, query == TIE ? 1 : 0);
    }
    x.where(LEAF, 0, 0, '=', 0);
    x.where(ROWS, 0, 0, '=', 1);
    return x;
  }

  private static void ties(DuelSchema x, int rounds) {
    for (int round = 0; round < rounds; round++) {
      x.round(TIE);
    }
  }

  private void coinsAre(String what, DuelSchema x, int book, int counts) {
    check.due(what + ", P33 of the duellist 0", book, () -> x.coins(0));
    check.due(what + ", P33 of the duellist 1", counts, () -> x.coins(1));
  }

  private void missesAre(String what, DuelSchema x, int book, int counts) {
    int last = x.rounds() - 1;
    check.due(what + ", P34 of the duellist 0", book, () -> x.misses(0, last));
    check.due(what + ", P34 of the duellist 1", counts, () -> x.misses(1, last));
    check.fails(what + ", P34 behind the last round", Check.NONE, () -> x.misses(0, last + 1));
    check.fails(what + ", P34 ahead of the first round", Check.NONE, () -> x.misses(1, -1));
  }

  // ---- bans

  private void promise30OneTwoAndThreeCoins() {
    DuelSchema x = ready(5);
    check.fails("P30 without coins", Check.STATE, () -> x.ban(0, 0));
    x.round(TIE);
    check.fails("P30 with 1 coin", Check.STATE, () -> x.ban(0, 0));
    check.fails("P30 with 1 coin", Check.STATE, () -> x.ban(1, 0));
    coinsAre("P30 refused", x, 1, 1);
    x.round(TIE);
    check.due("P30 with 2 coins", 0, () -> x.ban(0, 0));
    coinsAre("P30 with 2 coins", x, 0, 2);
    check.due("P30 with 2 coins", 0, () -> x.ban(1, 0));
    coinsAre("P30 both for the same index", x, 0, 0);
    DuelSchema y = ready(5);
    y.round(LEAF);
    check.due("P30 with 3 coins", 1, () -> y.ban(0, 2));
    check.fails("P30 with 1 coin left", Check.STATE, () -> y.ban(0, 1));
  }

  private void promise30AtMostTwoOfEach() {
    DuelSchema x = ready(5);
    ties(x, 6);
    check.due("P30 one", 4, () -> x.ban(0, 2));
    check.fails("P30 banned so already", Check.UNSUPPORTED, () -> x.ban(0, 2));
    check.due("P30 one of the other one, the same", 4, () -> x.ban(1, 2));
    check.due("P30 two", 2, () -> x.ban(0, 0));
    check.due("P30 two of the other one", 2, () -> x.ban(1, 1));
    check.fails("P30 two are", Check.UNSUPPORTED, () -> x.ban(0, 1));
    check.fails("P30 two are of the other one", Check.UNSUPPORTED, () -> x.ban(1, 0));
    check.fails("P30 two are, and it is one of them", Check.UNSUPPORTED, () -> x.ban(0, 0));
    coinsAre("P30 what is refused costs nothing", x, 2, 2);
    check.due("P26 the duellist 0 has the index 0 left", 0, () -> x.usedIndex(0, LEAF, 0));
    x.round(TIE);
    check.due("P30 behind the round, the same again", 1, () -> x.ban(0, 2));
    check.due("P30 behind the round, another one", 1, () -> x.ban(1, 0));
    check.due("P26 the bans of that round are gone, and the new one holds", 1, () -> x.usedIndex(0, LEAF, 0));
  }

  private void promise30OfEachIndex() {
    for (int index = 0; index < 6; index++) {
      DuelSchema x = ready(5);
      for (int more = 0; more < 3; more++) {
        x.index(0, 0);
      }
      ties(x, 4);
      int i = index;
      check.due("P30 the index " + i, 2, () -> x.ban(1, i));
      check.due("P26 the lowest that is allowed", i == 0 ? 1 : 0, () -> x.usedIndex(0, LEAF, 0));
      check.due("P30 the next one", 0, () -> x.ban(1, (i + 1) % 6));
      check.due("P26 the lowest that is allowed", i == 0 ? 2 : i == 5 ? 1 : 0, () -> x.usedIndex(0, LEAF, 0));
      check.fails("P30 behind the last index", Check.INDEX, () -> x.ban(0, 6));
    }
  }

  /** Counted, so that the duellist 1 goes by an index too; it has but the indexes 0 and 1. */
  private void promise30ForWhatIsAskedAheadOfTheRound() {
    DuelSchema x = new DuelSchema();
    x.table(1);
    for (int row = 0; row < 12; row++) {
      x.insert(0, row, 0, 0);
    }
    x.index(0, 0);
    x.index(0, 0);
    x.count(0);
    x.query();
    x.from(0, 0);
    x.where(0, 0, 0, '=', 1);
    x.frames(12);
    for (int round = 0; round < 8; round++) {
      x.round(0);
    }
    for (int duellist = 0; duellist < 2; duellist++) {
      int d = duellist;
      plansAre(x, d, 'c', 0, 1, 2);
      x.ban(1 - d, 0);
      plansAre(x, d, 'c', 1, 1, 2);
      x.ban(1 - d, 1);
      plansAre(x, d, 'f', -1, 3, 3);
      check.due("P40 no plan uses a banned index", true, x::isSound);
      plansAre(x, 1 - d, 'c', 0, 1, 2);
      x.flush();
      check.fails("P31 refused", Check.INDEX, () -> x.round(1));
      plansAre(x, d, 'f', -1, 3, 3);
      check.due("P31 who has no index loses", 1 - d, () -> x.round(0));
      // Who is banned is first, and goes through three pages; the other one misses but a leaf.
      missesAre("P31 a banned index is as none in the round", x, d == 0 ? 3 : 1, d == 0 ? 1 : 3);
      plansAre(x, d, 'c', 0, 1, 2);
    }
  }

  private void plansAre(DuelSchema x, int duellist, char way, int index, long estimate, int reads) {
    check.due("P25 of " + duellist, way, () -> x.way(duellist, 0, 0));
    check.due("P26 of " + duellist, index, () -> x.usedIndex(duellist, 0, 0));
    check.due("P27 of " + duellist, estimate, () -> x.estimate(duellist, 0));
    check.due("P28 of " + duellist, reads, () -> x.cold(duellist, 0));
    check.due("P29 of " + duellist, reads, () -> x.reads(duellist, 0));
    check.due("P38 of " + duellist, 0.0f, () -> x.hitShare(duellist, 0));
  }

  private void promise30StaysUntilARound() {
    DuelSchema x = ready(5);
    ties(x, 5);
    x.ban(1, 0);
    x.insert(0, 1, 0, 0);
    x.frames(6);
    x.flush();
    x.count(1);
    check.due("P26 what else is told leaves it", 1, () -> x.usedIndex(0, LEAF, 0));
    check.due("P7 an index comes behind it", 3, () -> x.index(0, 0));
    check.due("P26 an index that comes leaves it", 1, () -> x.usedIndex(0, LEAF, 0));
    DuelSchema y = ready(5);
    ties(y, 5);
    y.ban(1, 0);
    y.ban(1, 1);
    check.due("P32 an appeal", -1, () -> y.appeal(0));
    check.due("P26 an appeal leaves it", 2, () -> y.usedIndex(0, LEAF, 0));
    check.fails("P30 so two are", Check.UNSUPPORTED, () -> y.ban(1, 2));
    y.round(LEAF);
    check.due("P31 the round, in which the duellist 0 is last, is played by the index 2", 500, () -> y.cachedAt(0));
  }

  // ---- rounds

  private void promise31OneMissMoreOrLess() {
    int[][] due = {
      // rows, query, misses of both without frames, winner, coins of both
      {0, TIE, 0, 0, -1, 1, 1}, {0, LEAF, 0, 0, -1, 1, 1}, {1, ROWS, 2, 1, 1, 0, 3}, {4, LEAF, 1, 1, -1, 1, 1},
      {5, LEAF, 1, 2, 0, 3, 0}, {40, LEAF, 1, 10, 0, 3, 0}, {40, ROWS, 45, 10, 1, 0, 3},
      {40, PAGES, 10, 10, -1, 1, 1}};
    for (int[] row : due) {
      DuelSchema x = ready(row[0]);
      x.frames(0);
      String what = "P31 rows " + row[0] + ", query " + row[1];
      check.due(what, row[4], () -> x.round(row[1]));
      missesAre(what, x, row[2], row[3]);
      coinsAre(what, x, row[5], row[6]);
      check.due(what + ", P35", row[2], () -> x.total(0));
      check.due(what + ", P35", row[3], () -> x.total(1));
      check.due(what + ", P36", 1, x::rounds);
    }
  }

  private void promise31WhoIsFirst() {
    DuelSchema x = ready(1);
    for (int round = 0; round < 6; round++) {
      x.flush();
      boolean even = round % 2 == 0;
      check.due("P31 round " + round, even ? 1 : -1, () -> x.round(ROWS));
      // In even ones the duellist 0 reads a leaf and the page first, in others the other one the page.
      missesAre("P31 round " + round, x, even ? 2 : 1, even ? 0 : 1);
      check.fails("P31 refused", Check.INDEX, () -> x.round(4));
    }
    check.due("P36 what is refused is no round", 6, x::rounds);
    coinsAre("P31 three rounds won, three alike", x, 3, 12);
    check.due("P31 with the cache as it is", -1, () -> x.round(ROWS));
    missesAre("P31 with the cache as it is", x, 0, 0);
    DuelSchema y = ready(1);
    y.round(TIE);
    y.appeal(0);
    check.due("P31 an appeal is no round, so the duellist 1 is first", -1, () -> y.round(ROWS));
    missesAre("P31 an appeal is no round", y, 1, 1);
  }

  // ---- appeals

  private static final int COLD = 0;
  private static final int WITH_PAGES = 1;
  private static final int WITH_LEAF = 2;
  private static final int WARM = 3;

  /** Both have coins, and the cache is as told ahead of the next round of the query. */
  private static DuelSchema before(int rows, int query, int state) {
    DuelSchema x = ready(rows);
    ties(x, 3);
    if (state == WITH_PAGES) {
      x.round(PAGES);
    } else if (state == WITH_LEAF) {
      // In the round 3 the leaf is read last, so that it alone stays in one frame.
      x.round(LEAF);
      x.frames(1);
      x.frames(4);
    } else if (state == WARM) {
      x.round(query);
    } else {
      ties(x, 1);
    }
    if (state == WITH_LEAF) {
      ties(x, 1);
    }
    return x;
  }

  private void promise32EachWinnerAheadAndBehind() {
    int[][] due = {
      // rows, query, cache ahead; misses and winner; the same with empty caches
      {5, LEAF, COLD, 1, 2, 0, 1, 2, 0}, {1, ROWS, WITH_LEAF, 0, 1, 0, 2, 1, 1},
      {4, LEAF, WITH_LEAF, 0, 1, 0, 1, 1, -1}, {5, LEAF, WITH_PAGES, 1, 0, 1, 1, 2, 0},
      {1, ROWS, COLD, 2, 0, 1, 2, 1, 1}, {4, LEAF, WITH_PAGES, 1, 0, 1, 1, 1, -1},
      {5, LEAF, WARM, 0, 0, -1, 1, 2, 0}, {1, ROWS, WARM, 0, 0, -1, 2, 1, 1}, {4, LEAF, COLD, 1, 1, -1, 1, 1, -1}};
    for (int[] row : due) {
      for (int duellist = 0; duellist < 2; duellist++) {
        DuelSchema x = before(row[0], row[1], row[2]);
        int[] coins = {x.coins(0), x.coins(1)};
        int[] total = {x.total(0), x.total(1)};
        int played = x.rounds();
        int d = duellist;
        String what = "P32 by " + d + ", from " + row[5] + " to " + row[8];
        check.due(what + ", P31", row[5], () -> x.round(row[1]));
        missesAre(what + ", ahead", x, row[3], row[4]);
        coinsAre(what + ", ahead", x, coins[0] + prize(0, row[5]), coins[1] + prize(1, row[5]));
        String cache = cacheOf(x);
        check.due(what, row[8], () -> x.appeal(d));
        missesAre(what + ", behind", x, row[6], row[7]);
        int lost = row[5] == row[8] ? 1 : 0;
        coinsAre(what + ", behind", x, coins[0] + prize(0, row[8]) - (d == 0 ? lost : 0),
            coins[1] + prize(1, row[8]) - (d == 1 ? lost : 0));
        check.due(what + ", P35", total[0] + row[6], () -> x.total(0));
        check.due(what + ", P35", total[1] + row[7], () -> x.total(1));
        check.due(what + ", P36", played + 1, x::rounds);
        check.report(what + ", the cache is as it was", cache, cacheOf(x));
        check.fails(what + ", once", Check.UNSUPPORTED, () -> x.appeal(d));
        check.fails(what + ", once, the other one", Check.UNSUPPORTED, () -> x.appeal(1 - d));
      }
    }
  }

  private static int prize(int duellist, int winner) {
    return winner < 0 ? 1 : winner == duellist ? 3 : 0;
  }

  private static String cacheOf(DuelSchema x) {
    StringBuilder keys = new StringBuilder();
    for (int place = 0; place < x.cached(); place++) {
      keys.append(x.cachedAt(place)).append(' ');
    }
    return keys.toString();
  }

  private void promise32CoinsNotBelowNone() {
    DuelSchema x = ready(5);
    x.round(LEAF);
    x.ban(0, 0);
    coinsAre("P32 a coin is left", x, 1, 0);
    check.fails("P32 the other one has none", Check.STATE, () -> x.appeal(1));
    check.due("P32 with a coin", 0, () -> x.appeal(0));
    // 1 less 3 is none, 3 more, and 1 less.
    coinsAre("P32 as those of the round are taken back", x, 2, 0);
    DuelSchema y = ready(1);
    y.round(ROWS);
    y.ban(1, 0);
    check.due("P32 with a coin", 1, () -> y.appeal(1));
    coinsAre("P32 as those of the other one are taken back", y, 0, 2);
    DuelSchema z = ready(4);
    ties(z, 2);
    z.ban(0, 0);
    coinsAre("P32 no coin is left", z, 0, 2);
    check.due("P32 again none", -1, () -> z.appeal(1));
    // None less 1 is none, and 1 more; 2 less 1, 1 more, and 1 less.
    coinsAre("P32 as those of a tie are taken back", z, 1, 1);
    DuelSchema w = ready(4);
    ties(w, 1);
    check.due("P32 again none, with one coin", -1, () -> w.appeal(1));
    coinsAre("P32 by the loss", w, 1, 0);
    DuelSchema v = ready(5);
    v.round(TIE);
    v.round(LEAF);
    v.ban(0, 0);
    coinsAre("P32 two are left of four", v, 2, 1);
    check.due("P32 the winner is the same", 0, () -> v.appeal(1));
    // 2 less 3 is none, and 3 more; the loss of the other one.
    coinsAre("P32 two less three", v, 3, 0);
    check.fails("P30 no coin, and no debt", Check.STATE, () -> v.ban(1, 0));
  }

  private void promise32FromNoCoinToOne() {
    DuelSchema x = ready(5);
    x.round(LEAF);
    check.fails("P32 no coin", Check.STATE, () -> x.appeal(1));
    check.due("P32 what is refused leaves it open", 0, () -> x.appeal(0));
    DuelSchema y = ready(5);
    y.round(TIE);
    check.due("P32 one coin", -1, () -> y.appeal(0));
    coinsAre("P32 one coin", y, 0, 1);
    check.fails("P32 once, ahead of no coin", Check.UNSUPPORTED, () -> y.appeal(0));
    y.round(TIE);
    check.due("P32 open again behind a round", -1, () -> y.appeal(0));
    coinsAre("P32 open again behind a round", y, 0, 2);
    DuelSchema z = ready(5);
    ties(z, 2);
    z.ban(0, 0);
    check.fails("P32 none of two", Check.STATE, () -> z.appeal(0));
    z.ban(1, 0);
    check.fails("P32 none of two", Check.STATE, () -> z.appeal(1));
  }

  private void promise32TheLastRoundAlone() {
    DuelSchema x = before(5, LEAF, WARM);
    x.round(LEAF);
    missesAre("P32 ahead", x, 0, 0);
    x.round(LEAF);
    missesAre("P32 ahead", x, 0, 0);
    check.due("P32 the last round", 0, () -> x.appeal(1));
    missesAre("P32 the last round", x, 1, 2);
    int last = x.rounds() - 1;
    check.due("P34 the round ahead of it stays", 0, () -> x.misses(0, last - 1));
    check.due("P34 the round ahead of it stays", 0, () -> x.misses(1, last - 1));
    check.due("P35 of the round 3 and of this one", 2, () -> x.total(0));
    check.due("P35 of the round 3 and of this one", 4, () -> x.total(1));
  }

  /** Two rows in a page, for each of which three pages are read: 7 reads, with 3 frames 4 misses. */
  private void promise32WithAsManyFrames() {
    int[][] due = {{0, 7, 7, 7}, {1, 7, 7, 7}, {2, 7, 7, 7}, {3, 4, 4, 4}, {4, 4, 0, 4}, {12, 4, 0, 4}};
    for (int[] row : due) {
      DuelSchema x = new DuelSchema();
      x.table(1);
      x.table(1);
      x.insert(0, 1, 0, 0);
      x.insert(0, 1, 0, 0);
      for (int more = 0; more < 9; more++) {
        x.insert(1, 1, 0, 0);
      }
      x.query();
      x.from(0, 0);
      x.from(0, 1);
      x.frames(row[0]);
      x.round(0);
      missesAre("P32 frames " + row[0] + ", ahead", x, row[1], row[2]);
      x.appeal(row[1] < row[2] ? 0 : 1);
      missesAre("P32 frames " + row[0], x, row[3], row[3]);
      check.due("P32 the frames stay", row[0], () -> x.frames(row[0]));
    }
  }

  // ---- what is left of 512 calls

  private void promise36AllCallsAreRounds() {
    DuelSchema x = new DuelSchema();
    x.table(1);
    x.query();
    x.from(0, 0);
    ties(x, 508);
    check.due("P36 the call 512", 508, x::rounds);
    for (int duellist = 0; duellist < 2; duellist++) {
      DuelSchema y = new DuelSchema();
      y.frames(0);
      y.table(1);
      y.insert(0, 1, 0, 0);
      y.query();
      y.from(0, 0);
      ties(y, 503);
      int d = duellist;
      check.due("P34 the last one of 503", 1, () -> y.misses(d, 502));
      check.fails("P34 behind it", Check.NONE, () -> y.misses(d, 503));
      check.due("P35 of 503", 503, () -> y.total(d));
      check.due("P33 of 503", 503, () -> y.coins(d));
    }
  }

  public static void main(String[] args) {
    Check check = new Check();
    DuelEdgesTest test = new DuelEdgesTest(check);
    test.promise30OneTwoAndThreeCoins();
    test.promise30AtMostTwoOfEach();
    test.promise30OfEachIndex();
    test.promise30ForWhatIsAskedAheadOfTheRound();
    test.promise30StaysUntilARound();
    test.promise31OneMissMoreOrLess();
    test.promise31WhoIsFirst();
    test.promise32EachWinnerAheadAndBehind();
    test.promise32CoinsNotBelowNone();
    test.promise32FromNoCoinToOne();
    test.promise32TheLastRoundAlone();
    test.promise32WithAsManyFrames();
    test.promise36AllCallsAreRounds();
    check.end();
  }
}
