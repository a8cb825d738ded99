/** The edges that the document names for the cache: promises 4, 5, 7, 8, 14, 15, 16, 28 and 31. */
public final class CacheEdgesTest {
  private final Check check;

  private CacheEdgesTest(Check check) {
    this.check = check;
  }

  private void fill(DuelSchema x, int table, int rows) {
    for (int row = 0; row < rows; row++) {
      x.insert(table, row, 0, 0);
    }
  }

  /** Three tables of one column with so many rows, and for each a query of all its rows. */
  private DuelSchema three(int... rows) {
    DuelSchema x = new DuelSchema();
    for (int table = 0; table < 3; table++) {
      x.table(1);
      fill(x, table, rows[table]);
      x.query();
      x.from(table, table);
    }
    return x;
  }

  private void promise8FourFramesAtFirst() {
    DuelSchema x = three(16, 20, 1);
    x.round(0);
    check.cacheIs("P8 four pages have room", x, 3, 2, 1, 0);
    x.round(1);
    check.cacheIs("P8 of five pages the last four", x, 104, 103, 102, 101);
    check.due("P8 there were 4", 4, () -> x.frames(4));
    check.cacheIs("P8 as many as before", x, 104, 103, 102, 101);
  }

  private void promise8EachNumberOfFrames() {
    for (int frames = 0; frames <= 12; frames++) {
      DuelSchema x = three(40, 40, 0);
      int before = frames;
      int[] last = new int[frames];
      for (int place = 0; place < frames; place++) {
        last[place] = place < 10 ? 109 - place : 19 - place;
      }
      check.due("P8 from 4 to " + frames, 4, () -> x.frames(before));
      check.due("P8 told again", frames, () -> x.frames(before));
      x.round(0);
      x.round(1);
      check.cacheIs("P8 full with " + frames, x, last);
      check.due("P16 flush with " + frames, frames, x::flush);
      check.cacheIs("P16 flushed with " + frames, x);
    }
  }

  private void promise8FewerFrames() {
    DuelSchema x = three(40, 8, 0);
    x.frames(12);
    x.round(0);
    x.round(1);
    check.cacheIs("P8 twelve have room", x, 101, 100, 9, 8, 7, 6, 5, 4, 3, 2, 1, 0);
    check.due("P8 one frame less", 12, () -> x.frames(11));
    check.cacheIs("P8 the least lately read one leaves", x, 101, 100, 9, 8, 7, 6, 5, 4, 3, 2, 1);
    x.frames(3);
    check.cacheIs("P8 eight leave", x, 101, 100, 9);
    x.frames(12);
    check.cacheIs("P8 more frames bring none back", x, 101, 100, 9);
    x.frames(3);
    check.cacheIs("P8 fewer frames, but room for all", x, 101, 100, 9);
    x.frames(1);
    check.cacheIs("P8 one frame", x, 101);
    x.frames(0);
    check.cacheIs("P8 no frame", x);
    x.frames(1);
    check.cacheIs("P8 one frame again", x);
  }

  private void promise8WhoIsReadIsTheLatest() {
    DuelSchema x = three(1, 1, 1);
    x.frames(2);
    x.round(0);
    x.round(1);
    check.cacheIs("P8 full", x, 100, 0);
    check.due("P31 one that is in it is no miss", -1, () -> x.round(0));
    check.due("P34 no miss", 0, () -> x.misses(0, 2));
    check.cacheIs("P15 one that is in it is the latest", x, 0, 100);
    x.round(0);
    check.cacheIs("P15 the latest one stays so", x, 0, 100);
    x.round(2);
    check.cacheIs("P15 the one that was latest least lately leaves", x, 200, 0);
    check.due("P31 the one that left is a miss of the duellist 1, who comes first", 0, () -> x.round(1));
    check.cacheIs("P15 and so on", x, 100, 200);
  }

  private void promise8WithoutFramesAllAreMisses() {
    DuelSchema x = three(1, 1, 1);
    x.frames(0);
    for (int round = 0; round < 3; round++) {
      int r = round;
      x.round(0);
      check.due("P8 a miss of the duellist 0", 1, () -> x.misses(0, r));
      check.due("P8 a miss of the duellist 1", 1, () -> x.misses(1, r));
      check.cacheIs("P8 without frames", x);
    }
    x.frames(1);
    x.round(0);
    check.due("P8 with a frame, who comes first misses", 0, () -> x.misses(0, 3));
    check.due("P8 with a frame, who comes first misses", 1, () -> x.misses(1, 3));
    check.cacheIs("P8 with a frame", x, 0);
  }

  /** All pages and leaves that there can be of a full table with two full indexes, at the ends of their numbers. */
  private void promise15GreatestKeys() {
    DuelSchema x = new DuelSchema();
    x.table(1);
    x.table(1);
    x.table(1);
    fill(x, 2, 40);
    for (int index = 0; index < 6; index++) {
      x.index(index < 5 ? 0 : 2, 0);
    }
    x.query();
    x.from(0, 2);
    x.where(0, 0, 0, '>', 38);
    x.frames(12);
    x.query();
    x.from(1, 0);
    x.round(1);
    // The duellist 1 goes through the ten pages first, then the other one reads a leaf and a page by the index 5.
    x.round(0);
    check.cacheIs("P15 100 times 3 more than the index, plus the leaf", x, 209, 804, 208, 207, 206, 205, 204, 203,
        202, 201, 200);
    x.insert(0, 1, 1, 1);
    check.cacheIs("P4 a row of another table", x, 209, 804, 208, 207, 206, 205, 204, 203, 202, 201, 200);
    x.remove(2, 39);
    check.cacheIs("P5 its page and its leaf", x, 208, 207, 206, 205, 204, 203, 202, 201, 200);
    x.remove(2, 0);
    check.cacheIs("P5 its page", x, 208, 207, 206, 205, 204, 203, 202, 201);
  }

  /** A row number at the edge of a page takes that page out, and not the next one. */
  private void promise4And5PagesAtTheirEdges() {
    int[][] leftAsItComes = {{}, {}, {}, {}, {0}, {0}, {0}, {0}, {1, 0}, {1, 0}};
    for (int row = 0; row < 10; row++) {
      DuelSchema x = three(row, 0, 0);
      x.round(0);
      x.insert(0, 0, 0, 0);
      check.cacheIs("P4 the row " + row + " comes", x, leftAsItComes[row]);
    }
    int[][] left = {{2, 1}, {2, 1}, {2, 1}, {2, 1}, {2, 0}, {2, 0}, {2, 0}, {2, 0}, {1, 0}};
    for (int row = 0; row < 9; row++) {
      DuelSchema x = three(9, 0, 0);
      x.round(0);
      x.remove(0, row);
      check.cacheIs("P5 the row " + row + " is removed", x, left[row]);
    }
  }

  /** Two tables with two leaves each in the cache, by indexes that stand next to each other. */
  private DuelSchema leafy() {
    DuelSchema x = three(9, 9, 0);
    x.index(0, 0);
    x.index(1, 0);
    x.index(0, 0);
    x.frames(12);
    x.round(2);
    for (int table = 0; table < 2; table++) {
      x.query();
      x.from(3 + table, table);
      x.where(3 + table, 0, 0, '<', 9);
    }
    x.round(3);
    x.round(2);
    x.round(4);
    return x;
  }

  private void promise4And5AllLeavesOfTheTable() {
    DuelSchema x = leafy();
    // Round 1: the duellist 1 reads the pages, then the other one by the leaves; round 3 likewise.
    check.cacheIs("P15 leaves of both", x, 102, 401, 101, 100, 400, 2, 301, 1, 0, 300);
    x.remove(0, 0);
    check.cacheIs("P5 the page and all leaves of the table", x, 102, 401, 101, 100, 400, 2, 1);
    DuelSchema y = leafy();
    y.insert(1, 0, 0, 0);
    check.cacheIs("P4 the page and all leaves of the table", y, 101, 100, 2, 301, 1, 0, 300);
    DuelSchema z = leafy();
    z.insert(2, 0, 0, 0);
    check.cacheIs("P4 of a table that has no page yet, nor an index", z, 102, 401, 101, 100, 400, 2, 301, 1, 0, 300);
    z.index(0, 0);
    check.cacheIs("P7 an index more", z, 102, 401, 101, 100, 400, 2, 301, 1, 0, 300);
  }

  private void promise16EmptyAndFull() {
    DuelSchema x = new DuelSchema();
    check.due("P16 of none", 0, x::flush);
    DuelSchema y = three(40, 8, 1);
    y.frames(12);
    y.round(0);
    y.round(1);
    check.due("P16 of twelve", 12, y::flush);
    check.due("P16 once more", 0, y::flush);
    check.cacheIs("P16 emptied", y);
    y.round(2);
    check.cacheIs("P16 it fills again", y, 200);
    check.due("P16 the frames stay", 12, () -> y.frames(12));
  }

  private void promise28TheCacheStays() {
    DuelSchema x = leafy();
    for (int duellist = 0; duellist < 2; duellist++) {
      for (int query = 0; query < 5; query++) {
        Check.answerOf(coldAsked(x, duellist, query));
        check.cacheIs("P28 the cache stays as it is", x, 102, 401, 101, 100, 400, 2, 301, 1, 0, 300);
      }
    }
    check.due("P28 with an empty cache, though all is in it", 5, () -> x.cold(0, 3));
    check.due("P28 with an empty cache, though all is in it", 3, () -> x.cold(1, 4));
  }

  private static Check.Call coldAsked(DuelSchema x, int duellist, int query) {
    return () -> x.cold(duellist, query);
  }

  public static void main(String[] args) {
    Check check = new Check();
    CacheEdgesTest test = new CacheEdgesTest(check);
    test.promise8FourFramesAtFirst();
    test.promise8EachNumberOfFrames();
    test.promise8FewerFrames();
    test.promise8WhoIsReadIsTheLatest();
    test.promise8WithoutFramesAllAreMisses();
    test.promise15GreatestKeys();
    test.promise4And5PagesAtTheirEdges();
    test.promise4And5AllLeavesOfTheTable();
    test.promise16EmptyAndFull();
    test.promise28TheCacheStays();
    check.end();
  }
}
