/** Promises 30 to 36: bans, rounds, appeals, coins and misses. */
public final class DuelTest {
  private static final int[] WRONG_DUELLISTS = {-1, 2, Integer.MIN_VALUE, Integer.MAX_VALUE};

  private final Check check;

  private DuelTest(Check check) {
    this.check = check;
  }

  /**
   * Table 0: nine rows of 1 in three pages, with the indexes 0 to 2; table 1 without rows; not counted.
   * Query 0 goes through a table without pages: a tie of 0 misses. Query 1 wants 1: by the book 2 leaves
   * and 3 pages, by counts 3 pages. Query 2 wants 0: by the book a leaf, by counts 3 pages.
   */
  private static DuelSchema ready() {
    DuelSchema x = new DuelSchema();
    x.table(1);
    x.table(1);
    for (int row = 0; row < 9; row++) {
      x.insert(0, 1, 0, 0);
    }
    x.index(0, 0);
    x.index(0, 0);
    x.index(0, 0);
    for (int query = 0; query < 3; query++) {
      x.query();
      x.from(query, query == 0 ? 1 : 0);
    }
    x.where(1, 0, 0, '=', 1);
    x.where(2, 0, 0, '=', 0);
    x.frames(12);
    return x;
  }

  private void coinsAre(DuelSchema x, String what, int book, int counts) {
    check.due("P33 " + what + ", duellist 0", book, () -> x.coins(0));
    check.due("P33 " + what + ", duellist 1", counts, () -> x.coins(1));
  }

  private void missesAre(DuelSchema x, int round, int book, int counts) {
    check.due("P34 round " + round + ", duellist 0", book, () -> x.misses(0, round));
    check.due("P34 round " + round + ", duellist 1", counts, () -> x.misses(1, round));
    check.fails("P34 no round behind", Check.NONE, () -> x.misses(0, x.rounds()));
  }

  private void rounds() {
    DuelSchema x = ready();
    check.fails("P31 no query", Check.INDEX, () -> x.round(3));
    check.fails("P31 query -1", Check.INDEX, () -> x.round(-1));
    x.query();
    check.fails("P31 no position", Check.UNSUPPORTED, () -> x.round(3));
    check.due("P36 none yet", 0, x::rounds);
    check.due("P31 a tie", -1, () -> x.round(0));
    coinsAre(x, "one each", 1, 1);
    missesAre(x, 0, 0, 0);
    // Round 1: the duellist 1 comes first, and warms the pages for the other one.
    check.due("P31 the duellist 1 reads three pages first", 0, () -> x.round(1));
    missesAre(x, 1, 2, 3);
    coinsAre(x, "three for the winner", 4, 1);
    x.flush();
    // Round 2: the duellist 0 comes first.
    check.due("P31 the duellist 0 reads five first", 1, () -> x.round(1));
    missesAre(x, 2, 5, 0);
    coinsAre(x, "three for the winner", 4, 4);
    check.due("P35 total", 7, () -> x.total(0));
    check.due("P35 total", 3, () -> x.total(1));
    check.due("P36 rounds", 3, x::rounds);
    for (int wrong : WRONG_DUELLISTS) {
      check.fails("P33 duellist", Check.ARGUMENT, () -> x.coins(wrong));
      check.fails("P34 duellist", Check.ARGUMENT, () -> x.misses(wrong, 99));
      check.fails("P35 duellist", Check.ARGUMENT, () -> x.total(wrong));
    }
    for (int wrong : new int[] {-1, 3, 512, Integer.MAX_VALUE, Integer.MIN_VALUE, 1 << 30}) {
      check.fails("P34 round " + wrong, Check.NONE, () -> x.misses(1, wrong));
    }
  }

  private void bans() {
    DuelSchema x = ready();
    check.fails("P30 no coins", Check.STATE, () -> x.ban(0, 0));
    x.round(0);
    check.fails("P30 one coin", Check.STATE, () -> x.ban(0, 0));
    for (int round = 0; round < 6; round++) {
      x.round(0);
    }
    for (int wrong : WRONG_DUELLISTS) {
      check.fails("P30 duellist", Check.ARGUMENT, () -> x.ban(wrong, 9));
    }
    check.fails("P30 no index", Check.INDEX, () -> x.ban(0, 3));
    check.fails("P30 index -1", Check.INDEX, () -> x.ban(0, -1));
    check.due("P26 the lowest one", 0, () -> x.usedIndex(0, 1, 0));
    check.due("P30 for the duellist 1", 5, () -> x.ban(0, 0));
    check.due("P26 the own index is not banned", 0, () -> x.usedIndex(0, 1, 0));
    check.due("P30 for the duellist 0", 5, () -> x.ban(1, 0));
    check.due("P26 the next one", 1, () -> x.usedIndex(0, 1, 0));
    check.fails("P30 banned so already", Check.UNSUPPORTED, () -> x.ban(1, 0));
    check.due("P30 a second one", 3, () -> x.ban(1, 1));
    check.due("P26 the last one", 2, () -> x.usedIndex(0, 1, 0));
    check.fails("P30 two are", Check.UNSUPPORTED, () -> x.ban(1, 2));
    coinsAre(x, "what is refused costs nothing", 5, 3);
    check.due("P29 with bans", 11, () -> x.reads(0, 1));
    check.due("P40 with bans", true, x::isSound);
    x.round(1);
    check.due("P30 the round used the index 2", 501, () -> x.cachedAt(1));
    check.due("P26 bans are gone behind the round", 0, () -> x.usedIndex(0, 1, 0));
    x.ban(1, 0);
    check.due("P30 a ban may come again", 1, () -> x.usedIndex(0, 1, 0));
  }

  private void bansOfAll() {
    DuelSchema x = new DuelSchema();
    x.table(1);
    x.insert(0, 1, 0, 0);
    x.index(0, 0);
    x.index(0, 0);
    x.query();
    x.from(0, 0);
    x.from(0, 0);
    x.where(0, 0, 0, '=', 1);
    x.join(0, 1, 0, 0, 0);
    x.frames(0);
    for (int round = 0; round < 3; round++) {
      x.round(0);
      x.frames(1);
    }
    check.due("P25 c", 'c', () -> x.way(0, 0, 0));
    check.due("P25 j", 'j', () -> x.way(0, 0, 1));
    x.ban(1, 1);
    x.ban(1, 0);
    check.due("P25 a banned one is as none", 'f', () -> x.way(0, 0, 0));
    check.due("P25 a banned one is as none for joins", 'f', () -> x.way(0, 0, 1));
    check.due("P26 none", -1, () -> x.usedIndex(0, 0, 1));
    check.due("P28 a page alone", 1, () -> x.cold(0, 0));
  }

  private void bansByCounts() {
    DuelSchema x = new DuelSchema();
    x.table(1);
    for (int row = 0; row < 12; row++) {
      x.insert(0, row, 0, 0);
    }
    x.index(0, 0);
    x.count(0);
    x.query();
    x.from(0, 0);
    x.where(0, 0, 0, '=', 1);
    x.frames(12);
    x.round(0);
    x.round(0);
    x.round(0);
    check.due("P25 by an index", 'c', () -> x.way(1, 0, 0));
    x.ban(0, 0);
    check.due("P25 without it", 'f', () -> x.way(1, 0, 0));
    check.due("P27 without it", 3L, () -> x.estimate(1, 0));
    check.due("P27 the other one has it", 1L, () -> x.estimate(0, 0));
    check.due("P31 round", 0, () -> x.round(0));
    missesAre(x, 3, 0, 2);
    check.due("P25 by an index again", 'c', () -> x.way(1, 0, 0));
  }

  private void appeals() {
    DuelSchema x = ready();
    for (int wrong : WRONG_DUELLISTS) {
      check.fails("P32 duellist", Check.ARGUMENT, () -> x.appeal(wrong));
    }
    check.fails("P32 no round", Check.UNSUPPORTED, () -> x.appeal(0));
    x.round(0);
    check.due("P32 again none", -1, () -> x.appeal(0));
    coinsAre(x, "the appeal is lost", 0, 1);
    check.fails("P32 one has appealed", Check.UNSUPPORTED, () -> x.appeal(0));
    check.fails("P32 one has appealed, if the other one", Check.UNSUPPORTED, () -> x.appeal(1));
    check.due("P31 warm", 0, () -> x.round(1));
    coinsAre(x, "warm", 3, 1);
    missesAre(x, 1, 2, 3);
    // With empty caches the duellist 0 misses five, the other one three.
    check.due("P32 the other one wins", 1, () -> x.appeal(1));
    missesAre(x, 1, 5, 3);
    coinsAre(x, "in place of those before", 0, 4);
    check.due("P35 total counts the appeal", 5, () -> x.total(0));
    check.due("P32 the cache is as it was", 5, x::cached);
    check.due("P36 no round more", 2, x::rounds);
    x.flush();
    check.due("P31 cold for the duellist 0", 1, () -> x.round(1));
    missesAre(x, 2, 5, 0);
    check.fails("P32 no coin", Check.STATE, () -> x.appeal(0));
    check.due("P32 the winner is the same", 1, () -> x.appeal(1));
    missesAre(x, 2, 5, 3);
    coinsAre(x, "the appeal is lost", 0, 6);
  }

  private void appealsAndBans() {
    DuelSchema x = ready();
    x.round(0);
    x.flush();
    x.round(1);
    coinsAre(x, "ahead", 4, 1);
    check.due("P30 a ban", 2, () -> x.ban(0, 0));
    check.due("P30 a ban", 0, () -> x.ban(0, 1));
    check.fails("P32 no coin left", Check.STATE, () -> x.appeal(0));
    // The coins of the round are taken back, but do not go below 0.
    check.due("P32 behind bans", 1, () -> x.appeal(1));
    coinsAre(x, "not below 0", 0, 4);
    DuelSchema y = ready();
    y.round(0);
    y.round(2);
    coinsAre(y, "ahead", 4, 1);
    y.ban(0, 0);
    // The winner is the same: 2 less 3, that is 0, then 3 more, then 1 less.
    check.due("P32 the winner is the same", 0, () -> y.appeal(0));
    coinsAre(y, "not below 0 ahead of the new coins", 2, 1);
    check.due("P26 bans stay for the next round", -1, () -> y.usedIndex(1, 2, 0));
    check.fails("P30 so the index is banned still", Check.UNSUPPORTED, () -> {
      y.round(2);
      y.ban(0, 0);
      return y.ban(0, 0);
    });
  }

  /** The plans of the round are run again, not those with the bans for the next one. */
  private void appealsIgnoreNewBans() {
    DuelSchema x = ready();
    for (int round = 0; round < 3; round++) {
      x.round(0);
    }
    check.due("P31 warm", 0, () -> x.round(2));
    missesAre(x, 3, 1, 3);
    coinsAre(x, "ahead", 6, 3);
    x.ban(1, 0);
    check.due("P32 with the index", 0, () -> x.appeal(1));
    missesAre(x, 3, 1, 3);
    // 6 less 3 and 3 more; 1 less the lost appeal.
    coinsAre(x, "behind", 6, 0);
    DuelSchema y = new DuelSchema();
    y.table(1);
    for (int row = 0; row < 9; row++) {
      y.insert(0, 1, 0, 0);
    }
    y.index(0, 0);
    y.query();
    y.from(0, 0);
    y.where(0, 0, 0, '=', 0);
    y.frames(12);
    y.round(0);
    y.ban(0, 0);
    y.round(0);
    y.round(0);
    y.round(0);
    y.ban(1, 0);
    y.flush();
    y.round(0);
    missesAre(y, 4, 3, 0);
    check.due("P32 with the ban of the round", -1, () -> y.appeal(0));
    missesAre(y, 4, 3, 3);
  }

  private void toldSince() {
    String[] names = {"table", "bound", "insert", "remove", "count", "index", "frames", "flush", "query",
        "from", "where", "join", "nothing", "what is refused", "what is asked"};
    for (int told = 0; told < names.length; told++) {
      DuelSchema x = ready();
      x.from(0, 1);
      x.round(0);
      tell(x, told);
      if (told < 12) {
        check.fails("P32 behind " + names[told], Check.UNSUPPORTED, () -> x.appeal(0));
        coinsAre(x, "behind " + names[told], 1, 1);
      } else {
        check.due("P32 behind " + names[told], -1, () -> x.appeal(0));
      }
    }
  }

  private void tell(DuelSchema x, int told) {
    switch (told) {
      case 0 -> x.table(1);
      case 1 -> x.bound(0, 0, 0, 99);
      case 2 -> x.insert(1, 0, 0, 0);
      case 3 -> x.remove(0, 0);
      case 4 -> x.count(1);
      case 5 -> x.index(1, 0);
      case 6 -> x.frames(12);
      case 7 -> x.flush();
      case 8 -> x.query();
      case 9 -> x.from(0, 0);
      case 10 -> x.where(0, 0, 0, '=', 1);
      case 11 -> x.join(0, 0, 0, 1, 0);
      case 13 -> refused(x);
      case 14 -> asked(x);
      default -> {
      }
    }
  }

  private void refused(DuelSchema x) {
    check.fails("P2 table", Check.ARGUMENT, () -> x.table(0));
    check.fails("P3 bound", Check.ARGUMENT, () -> x.bound(0, 0, 2, 1));
    check.fails("P4 insert", Check.ARGUMENT, () -> x.insert(0, 100, 0, 0));
    check.fails("P5 remove", Check.NONE, () -> x.remove(0, 9));
    check.fails("P6 count", Check.INDEX, () -> x.count(2));
    check.fails("P7 index", Check.ARGUMENT, () -> x.index(0, 1));
    check.fails("P8 frames", Check.ARGUMENT, () -> x.frames(13));
    check.fails("P18 from", Check.INDEX, () -> x.from(0, 2));
    check.fails("P19 where", Check.ARGUMENT, () -> x.where(0, 0, 0, '?', 1));
    check.fails("P20 join", Check.ARGUMENT, () -> x.join(0, 0, 0, 0, 0));
    check.fails("P31 round", Check.INDEX, () -> x.round(3));
    check.fails("P30 ban", Check.STATE, () -> x.ban(0, 0));
    check.fails("P32 appeal", Check.ARGUMENT, () -> x.appeal(2));
  }

  private void asked(DuelSchema x) {
    x.pages(0);
    x.value(0, 0, 0);
    x.entries(0);
    x.entryAt(0, 0);
    x.counted(0, 0, 'r');
    x.cached();
    x.answers(1);
    x.answerAt(1, 0, 0);
    x.sum(1, 0, 0);
    x.planned(0, 1, 0);
    x.way(1, 1, 0);
    x.usedIndex(0, 1, 0);
    x.estimate(0, 1);
    x.cold(0, 1);
    x.reads(1, 1);
    x.coins(0);
    x.misses(0, 0);
    x.total(0);
    x.rounds();
    x.print();
    x.hitShare(0, 1);
    x.meanMisses();
    x.isSound();
  }

  private void manyRounds() {
    DuelSchema x = ready();
    for (int round = 0; round < 480; round++) {
      x.round(round % 3);
    }
    check.due("P36 rounds", 480, x::rounds);
    check.due("P34 the last one", 0, () -> x.misses(1, 479));
    check.fails("P34 behind the last one", Check.NONE, () -> x.misses(1, 480));
  }

  public static void main(String[] args) {
    Check check = new Check();
    DuelTest test = new DuelTest(check);
    test.rounds();
    test.bans();
    test.bansOfAll();
    test.bansByCounts();
    test.appeals();
    test.appealsAndBans();
    test.appealsIgnoreNewBans();
    test.toldSince();
    test.manyRounds();
    check.end();
  }
}
