// One part for each promise of the document: ordinary inputs, edges, wrong inputs, and the order
// in which refusals answer. Each part makes its own objects.
public final class HistoryRowsPromises {
  private static final int LOW = Integer.MIN_VALUE, HIGH = Integer.MAX_VALUE;
  private static final int NONE = -1, UNKNOWN = -101, OUTSIDE = -102, STATE = -103, PRUNED = -104, ROOM = -105;
  private static final long FAR = 4000000000L;

  private static int wrong = 0;
  private static int promise = 0;

  private static void due(String call, long got, long want) {
    if (got == want) return;
    wrong++;
    System.out.println("promise " + promise + ": " + call + " answered " + got + ", due is " + want);
  }

  public static void main(String[] args) {
    promise = 1; newObject();
    promise = 2; write();
    promise = 3; seal(); sealWithoutRoom();
    promise = 4; drop();
    promise = 5; at();
    promise = 6; now();
    promise = 7; digest();
    promise = 8; blame();
    promise = 9; first();
    promise = 10; differs();
    promise = 11; difference();
    promise = 12; rule();
    promise = 13; prune(); pruneWithoutRoom(); pruneByNeed();
    promise = 14; pruned();
    promise = 15; bring();
    promise = 16; forget();
    promise = 17; archive();
    promise = 18; replay();
    promise = 19; replayed();
    promise = 20; proof();
    promise = 21; lay();
    promise = 22; proves();
    promise = 23; back();
    promise = 24; row();
    promise = 25; count();
    promise = 26; clear();
    System.out.println(wrong == 0 ? "all promises hold" : wrong + " answers are not as due");
    if (wrong != 0) System.exit(1);
  }

  // ---- helpers

  /** Leaf 3 holds 0, 7, 7, 0, 9, 7 at heights 0 to 5; leaf 8 holds -1 from height 2 on. */
  private static HistoryRows fiveHeights() {
    HistoryRows x = new HistoryRows();
    x.write(10, 3, 7); x.seal();
    x.write(20, 8, -1); x.seal();
    x.write(30, 3, 0); x.seal();
    x.write(40, 3, 9); x.seal();
    x.write(50, 3, 7); x.seal();
    return x;
  }

  private static HistoryRows emptyHeights(int n) {
    HistoryRows x = new HistoryRows();
    for (int i = 0; i < n; i++) x.seal();
    return x;
  }

  /** Twelve heights of 32 rows and one of 15: 399 rows, leaf 31 holds 0 at the end. */
  private static HistoryRows rows399() {
    HistoryRows x = new HistoryRows();
    for (int h = 1; h <= 13; h++) {
      int leaves = h == 13 ? 15 : 32;
      for (int leaf = 0; leaf < leaves; leaf++) x.write(h, leaf, leaf == 31 && h == 12 ? 0 : h);
      x.seal();
    }
    return x;
  }

  private static int join(int l, int r) {
    int x = 31 * l + r;
    return (x ^ (x >>> 15)) * 0x2C1B3C6D;
  }

  /** The digest of the leaves from..from+n-1 of a state, by halves. */
  private static int tree(int[] state, int from, int n) {
    if (n == 1) return state[from] * 31 + from;
    return join(tree(state, from, n / 2), tree(state, from + n / 2, n / 2));
  }

  private static int[] stateOf(HistoryRows x, int height) {
    int[] state = new int[32];
    for (int leaf = 0; leaf < 32; leaf++) state[leaf] = (int) x.at(leaf, height);
    return state;
  }

  // ---- promises

  private static void newObject() {
    HistoryRows x = new HistoryRows();
    for (int what = 0; what <= 5; what++) due("count(" + what + ")", x.count(what), 0);
    for (int leaf = 0; leaf < 32; leaf++) {
      due("at(" + leaf + ", 0)", x.at(leaf, 0), 0);
      due("now(" + leaf + ")", x.now(leaf), 0);
    }
    due("digest(0)", x.digest(0), -1692335658L);
    due("digest(1)", x.digest(1), UNKNOWN - FAR);
    due("pruned(0)", x.pruned(0), 0);
    due("rule(0)", x.rule(0), 0);
    for (int i = 0; i < 5; i++) due("lay(" + i + ", 0)", x.lay(i, 0), 0);
    HistoryRows other = new HistoryRows();
    x.write(1, 1, 1); x.seal();
    due("count(0) of another object", other.count(0), 0);
    due("now(1) of another object", other.now(1), 0);
  }

  private static void write() {
    HistoryRows x = new HistoryRows();
    due("write(5, 0, low)", x.write(5, 0, LOW), 1);
    due("write(5, 31, high)", x.write(5, 31, HIGH), 2);
    due("write(4, 0, 1)", x.write(4, 0, 1), STATE);
    due("now(0)", x.now(0), LOW);
    due("write(999, 0, 1)", x.write(999, 0, 1), 3);
    due("write(1000, 0, 1)", x.write(1000, 0, 1), OUTSIDE);
    due("write(-1, 0, 1)", x.write(-1, 0, 1), OUTSIDE);
    due("write(low, 0, 1)", x.write(LOW, 0, 1), OUTSIDE);
    due("write(high, 0, 1)", x.write(HIGH, 0, 1), OUTSIDE);
    due("write(-1, 32, 1)", x.write(-1, 32, 1), UNKNOWN);
    due("write(1000, -1, 1)", x.write(1000, -1, 1), UNKNOWN);
    due("write(0, high, 1)", x.write(0, HIGH, 1), UNKNOWN);
    due("write(0, low, 1)", x.write(0, LOW, 1), UNKNOWN);
    due("count(1)", x.count(1), 3);
    x.seal();
    due("write(0, 0, 1) in a new block", x.write(0, 0, 1), 1);
    for (int n = 2; n <= 60; n++) due("write " + n, x.write(7, 0, n), n);
    due("write 61", x.write(7, 0, 61), ROOM);
    due("write 61 of a lesser call", x.write(6, 0, 61), STATE);
    due("write 61 of call 1000", x.write(1000, 0, 61), OUTSIDE);
    due("write 61 of leaf 32", x.write(6, 32, 61), UNKNOWN);
    due("count(1)", x.count(1), 60);
    due("now(0)", x.now(0), 60);
    x.drop();
    due("write(0, 0, 1) after drop", x.write(0, 0, 1), 1);
    x.write(9, 0, 2); x.back(1);
    due("write(0, 0, 1) after back", x.write(0, 0, 1), 1);
  }

  private static void seal() {
    HistoryRows x = new HistoryRows();
    due("seal() of an empty block", x.seal(), 1);
    due("count(2)", x.count(2), 0);
    x.write(1, 4, 5); x.write(2, 4, 6); x.write(3, 5, 0); x.write(4, 6, 1); x.write(5, 6, 0);
    due("seal()", x.seal(), 2);
    due("count(1)", x.count(1), 0);
    due("only leaf 4 has another value", x.count(2), 1);
    due("at(4, 2)", x.at(4, 2), 6);
    due("at(4, 1)", x.at(4, 1), 0);
    due("row(4, 0, 0)", x.row(4, 0, 0), 2);
    due("row(4, 0, 1)", x.row(4, 0, 1), 2);
    x.write(7, 4, 8); x.write(9, 4, 8);
    due("seal()", x.seal(), 3);
    due("the last write's call, though it changed nothing", x.row(4, 1, 1), 9);
    x.write(1, 4, 7); x.write(1, 4, 8);
    due("seal()", x.seal(), 4);
    due("there and back leaves no row", x.count(2), 2);
    for (int h = 5; h <= 200; h++) due("seal() to " + h, x.seal(), h);
    x.write(1, 1, 1);
    due("seal() at 200", x.seal(), ROOM);
    due("count(0)", x.count(0), 200);
    due("count(1): the block stays", x.count(1), 1);
    due("at(1, 200)", x.at(1, 200), 0);
    due("now(1)", x.now(1), 1);
    x.back(199);
    due("seal() after back(199)", x.seal(), 200);
  }

  private static void sealWithoutRoom() {
    HistoryRows x = rows399();
    due("count(2)", x.count(2), 399);
    x.write(1, 0, 100); x.write(1, 1, 100);
    due("seal() to 401 rows", x.seal(), ROOM);
    due("count(0)", x.count(0), 13);
    due("count(1)", x.count(1), 2);
    due("count(2)", x.count(2), 399);
    due("at(0, 13)", x.at(0, 13), 13);
    due("now(0)", x.now(0), 100);
    x.write(1, 1, 13);
    due("seal() to 400 rows", x.seal(), 14);
    due("count(2)", x.count(2), 400);
    due("seal() of an empty block", x.seal(), 15);
    x.write(1, 31, 1);
    due("seal() to 401 rows", x.seal(), ROOM);
    due("prune(15)", x.prune(15), 15);
    due("count(3)", x.count(3), 400 - 32);
    due("seal(): archived rows take room too", x.seal(), ROOM);
    due("forget()", x.forget(), 400 - 32);
    due("seal() with room again", x.seal(), 16);
    due("at(31, 16)", x.at(31, 16), 1);
    due("at(0, 16)", x.at(0, 16), 100);
    due("at(1, 16)", x.at(1, 16), 13);
    due("at(20, 16)", x.at(20, 16), 12);
    due("count(2)", x.count(2), 33);
  }

  private static void drop() {
    HistoryRows x = new HistoryRows();
    due("drop() of nothing", x.drop(), 0);
    x.write(1, 2, 3); x.seal();
    x.write(1, 2, 4); x.write(2, 5, 6);
    due("drop()", x.drop(), 2);
    due("drop() again", x.drop(), 0);
    due("now(2)", x.now(2), 3);
    due("now(5)", x.now(5), 0);
    due("count(0)", x.count(0), 1);
    due("count(1)", x.count(1), 0);
    due("seal()", x.seal(), 2);
    due("count(2)", x.count(2), 1);
  }

  private static void at() {
    HistoryRows x = fiveHeights();
    long[] held = {0, 7, 7, 0, 9, 7};
    for (int h = 0; h <= 5; h++) {
      due("at(3, " + h + ")", x.at(3, h), held[h]);
      due("at(8, " + h + ")", x.at(8, h), h < 2 ? 0 : -1);
    }
    x.write(60, 3, 1000);
    due("at(3, 5): the block is not sealed", x.at(3, 5), 7);
    due("at(3, 6)", x.at(3, 6), UNKNOWN - FAR);
    due("at(3, -1)", x.at(3, -1), UNKNOWN - FAR);
    due("at(3, low)", x.at(3, LOW), UNKNOWN - FAR);
    due("at(3, high)", x.at(3, HIGH), UNKNOWN - FAR);
    due("at(32, 0)", x.at(32, 0), UNKNOWN - FAR);
    due("at(-1, 0)", x.at(-1, 0), UNKNOWN - FAR);
    due("at(low, 0)", x.at(LOW, 0), UNKNOWN - FAR);
    x.rule(2); x.prune(4);
    due("at(3, 0)", x.at(3, 0), 0);
    due("at(3, 1)", x.at(3, 1), PRUNED - FAR);
    due("at(3, 2)", x.at(3, 2), 7);
    due("at(3, 3)", x.at(3, 3), PRUNED - FAR);
    due("at(3, 4)", x.at(3, 4), 9);
    due("at(32, 1)", x.at(32, 1), UNKNOWN - FAR);
    x.forget();
    due("at(3, 2)", x.at(3, 2), 7);
    due("at(3, 3)", x.at(3, 3), PRUNED - FAR);
    HistoryRows y = new HistoryRows();
    y.write(0, 0, LOW); y.write(0, 31, HIGH); y.seal();
    due("at(0, 1)", y.at(0, 1), LOW);
    due("at(31, 1)", y.at(31, 1), HIGH);
  }

  private static void now() {
    HistoryRows x = fiveHeights();
    due("now(3)", x.now(3), 7);
    x.write(1, 3, LOW);
    due("now(3)", x.now(3), LOW);
    due("now(8)", x.now(8), -1);
    due("now(31)", x.now(31), 0);
    due("now(32)", x.now(32), UNKNOWN - FAR);
    due("now(-1)", x.now(-1), UNKNOWN - FAR);
    due("now(low)", x.now(LOW), UNKNOWN - FAR);
    due("now(high)", x.now(HIGH), UNKNOWN - FAR);
    x.prune(5);
    due("now(3) after prune", x.now(3), LOW);
    x.forget(); x.drop();
    due("now(3) after forget", x.now(3), 7);
  }

  private static void digest() {
    HistoryRows x = fiveHeights();
    long[] held = new long[6];
    for (int h = 0; h <= 5; h++) {
      held[h] = tree(stateOf(x, h), 0, 32);
      due("digest(" + h + ")", x.digest(h), held[h]);
    }
    due("digest(-1)", x.digest(-1), UNKNOWN - FAR);
    due("digest(6)", x.digest(6), UNKNOWN - FAR);
    due("digest(low)", x.digest(LOW), UNKNOWN - FAR);
    due("digest(high)", x.digest(HIGH), UNKNOWN - FAR);
    x.write(1, 3, 50);
    due("digest(5) with a block", x.digest(5), held[5]);
    x.drop(); x.prune(5); x.forget();
    for (int h = 0; h <= 5; h++) due("digest(" + h + ") after forget", x.digest(h), held[h]);
    x.seal();
    x.back(5);
    due("digest(6) after back", x.digest(6), UNKNOWN - FAR);
    x.write(1, 31, HIGH); x.write(1, 0, LOW); x.seal();
    due("digest(6)", x.digest(6), tree(stateOf(x, 6), 0, 32));
    HistoryRows y = new HistoryRows();
    y.write(5, 3, 9); y.seal();
    due("digest(1) as the shared test has it", y.digest(1), -291335425L);
  }

  private static void blame() {
    HistoryRows x = fiveHeights();
    int[] call = {NONE, 10, 10, 30, 40, 50};
    int[] height = {NONE, 1, 1, 3, 4, 5};
    for (int h = 0; h <= 5; h++) {
      due("blame(3, " + h + ", 0)", x.blame(3, h, 0), call[h]);
      due("blame(3, " + h + ", 1)", x.blame(3, h, 1), height[h]);
    }
    due("blame(0, 5, 0)", x.blame(0, 5, 0), NONE);
    due("blame(0, 5, 1)", x.blame(0, 5, 1), NONE);
    due("blame(3, 0, 2)", x.blame(3, 0, 2), OUTSIDE);
    due("blame(3, 0, -1)", x.blame(3, 0, -1), OUTSIDE);
    due("blame(32, 0, 2)", x.blame(32, 0, 2), UNKNOWN);
    due("blame(-1, 0, 0)", x.blame(-1, 0, 0), UNKNOWN);
    due("blame(3, 6, 2)", x.blame(3, 6, 2), UNKNOWN);
    due("blame(3, -1, 0)", x.blame(3, -1, 0), UNKNOWN);
    x.rule(2); x.prune(5);
    due("blame(3, 3, 0)", x.blame(3, 3, 0), PRUNED);
    due("blame(3, 3, 1)", x.blame(3, 3, 1), PRUNED);
    due("blame(3, 3, 2)", x.blame(3, 3, 2), OUTSIDE);
    due("blame(3, 2, 1): a pruned height answers for it", x.blame(3, 2, 1), 1);
    due("blame(3, 2, 0)", x.blame(3, 2, 0), 10);
    due("blame(3, 4, 0)", x.blame(3, 4, 0), 40);
  }

  private static void first() {
    HistoryRows x = fiveHeights();
    due("first(3, 0)", x.first(3, 0), 0);
    due("first(3, 7)", x.first(3, 7), 1);
    due("first(3, 9)", x.first(3, 9), 4);
    due("first(3, 8)", x.first(3, 8), NONE);
    due("first(8, -1)", x.first(8, -1), 2);
    due("first(8, 7)", x.first(8, 7), NONE);
    due("first(32, 0)", x.first(32, 0), UNKNOWN);
    due("first(-1, 0)", x.first(-1, 0), UNKNOWN);
    due("first(high, 0)", x.first(HIGH, 0), UNKNOWN);
    x.write(60, 3, 1000);
    due("first(3, 1000): the block is not sealed", x.first(3, 1000), NONE);
    x.prune(2);
    due("first(3, 7) after prune(2)", x.first(3, 7), 2);
    due("first(3, 0) after prune(2)", x.first(3, 0), 3);
    due("first(0, 0) after prune(2)", x.first(0, 0), 2);
    x.prune(5);
    due("first(3, 7) after prune(5)", x.first(3, 7), 5);
    due("first(3, 9) after prune(5)", x.first(3, 9), NONE);
    due("first(3, 0) after prune(5)", x.first(3, 0), NONE);
    x.bring(); x.bring();
    due("first(3, 7) brought back", x.first(3, 7), 1);
  }

  private static void differs() {
    HistoryRows x = fiveHeights();
    due("differs(0, 0)", x.differs(0, 0), 0);
    due("differs(0, 1)", x.differs(0, 1), 1);
    due("differs(1, 0)", x.differs(1, 0), 1);
    due("differs(0, 2)", x.differs(0, 2), 2);
    due("differs(0, 3)", x.differs(0, 3), 1);
    due("differs(2, 5): there and back", x.differs(2, 5), 0);
    due("differs(4, 5)", x.differs(4, 5), 1);
    due("differs(0, 6)", x.differs(0, 6), UNKNOWN);
    due("differs(6, 0)", x.differs(6, 0), UNKNOWN);
    due("differs(-1, 0)", x.differs(-1, 0), UNKNOWN);
    due("differs(0, low)", x.differs(0, LOW), UNKNOWN);
    for (int leaf = 0; leaf < 32; leaf++) x.write(0, leaf, 77);
    x.seal();
    due("differs(5, 6)", x.differs(5, 6), 32);
    x.prune(2);
    due("differs(1, 2)", x.differs(1, 2), PRUNED);
    due("differs(2, 1)", x.differs(2, 1), PRUNED);
    due("differs(1, 1)", x.differs(1, 1), PRUNED);
    due("differs(1, 7)", x.differs(1, 7), UNKNOWN);
    due("differs(7, 1)", x.differs(7, 1), UNKNOWN);
    due("differs(2, 3)", x.differs(2, 3), 1);
  }

  private static void difference() {
    HistoryRows x = fiveHeights();
    due("difference(0, 2, 0)", x.difference(0, 2, 0), 3);
    due("difference(0, 2, 1)", x.difference(0, 2, 1), 8);
    due("difference(2, 0, 1)", x.difference(2, 0, 1), 8);
    due("difference(0, 2, 2)", x.difference(0, 2, 2), NONE);
    due("difference(0, 2, -1)", x.difference(0, 2, -1), NONE);
    due("difference(0, 2, low)", x.difference(0, 2, LOW), NONE);
    due("difference(0, 2, high)", x.difference(0, 2, HIGH), NONE);
    due("difference(2, 5, 0)", x.difference(2, 5, 0), NONE);
    due("difference(0, 6, 0)", x.difference(0, 6, 0), UNKNOWN);
    due("difference(-1, 0, 0)", x.difference(-1, 0, 0), UNKNOWN);
    x.prune(2);
    due("difference(1, 2, 0)", x.difference(1, 2, 0), PRUNED);
    due("difference(2, 1, -1)", x.difference(2, 1, -1), PRUNED);
    due("difference(1, 6, 0)", x.difference(1, 6, 0), UNKNOWN);
    due("difference(2, 3, 0)", x.difference(2, 3, 0), 3);
    for (int leaf = 0; leaf < 32; leaf++) x.write(0, leaf, 77);
    x.seal();
    for (int k = 0; k < 32; k++) due("difference(5, 6, " + k + ")", x.difference(5, 6, k), k);
    due("difference(5, 6, 32)", x.difference(5, 6, 32), NONE);
  }

  private static void rule() {
    HistoryRows x = emptyHeights(10);
    due("rule(3)", x.rule(3), 0);
    due("rule(100)", x.rule(100), 3);
    due("rule(101)", x.rule(101), OUTSIDE);
    due("rule(-1)", x.rule(-1), OUTSIDE);
    due("rule(low)", x.rule(LOW), OUTSIDE);
    due("rule(high)", x.rule(HIGH), OUTSIDE);
    due("rule(3)", x.rule(3), 100);
    due("prune(10)", x.prune(10), 6);
    for (int h = 0; h < 10; h++) due("pruned(" + h + ")", x.pruned(h), h % 3 == 0 ? 0 : 1);
    due("rule(2)", x.rule(2), 3);
    due("pruned(4): what is pruned stays so", x.pruned(4), 1);
    due("prune(10)", x.prune(10), 2);
    due("pruned(6)", x.pruned(6), 0);
    due("pruned(3)", x.pruned(3), 1);
    due("rule(1)", x.rule(1), 2);
    due("prune(10) with step 1", x.prune(10), 0);
    due("rule(0)", x.rule(0), 1);
    due("prune(10) with step 0", x.prune(10), 2);
    due("count(5)", x.count(5), 10);
    HistoryRows y = emptyHeights(200);
    y.rule(100);
    due("prune(200) with step 100", y.prune(200), 198);
    due("pruned(0)", y.pruned(0), 0);
    due("pruned(100)", y.pruned(100), 0);
  }

  private static void prune() {
    HistoryRows x = fiveHeights();
    due("prune(6)", x.prune(6), UNKNOWN);
    due("prune(-1)", x.prune(-1), UNKNOWN);
    due("prune(low)", x.prune(LOW), UNKNOWN);
    due("prune(high)", x.prune(HIGH), UNKNOWN);
    due("prune(0)", x.prune(0), 0);
    due("count(4): nothing was pruned", x.count(4), 0);
    due("prune(1)", x.prune(1), 1);
    due("count(4): an archive without rows", x.count(4), 1);
    due("archive(0, 0)", x.archive(0, 0), 0);
    due("prune(1) again", x.prune(1), 0);
    due("count(4)", x.count(4), 1);
    due("prune(3)", x.prune(3), 2);
    due("count(3)", x.count(3), 1);
    due("prune(5)", x.prune(5), 2);
    due("count(2)", x.count(2), 2);
    due("count(3)", x.count(3), 3);
    due("prune(2): below what is pruned", x.prune(2), 0);
    due("at(3, 5)", x.at(3, 5), 7);
    due("at(8, 5): a row of a pruned height", x.at(8, 5), -1);
    due("blame(8, 5, 1)", x.blame(8, 5, 1), 2);
    due("pruned(5)", x.pruned(5), 0);
  }

  private static void pruneWithoutRoom() {
    HistoryRows x = emptyHeights(12);
    for (int h = 1; h <= 8; h++) due("prune(" + h + ")", x.prune(h), 1);
    due("prune(9) with 8 archives", x.prune(9), ROOM);
    due("pruned(8)", x.pruned(8), 0);
    due("count(4)", x.count(4), 8);
    due("prune(8): none would be", x.prune(8), 0);
    due("prune(13)", x.prune(13), UNKNOWN);
    x.rule(1);
    due("prune(12): the rule spares all", x.prune(12), 0);
    x.rule(0);
    x.bring();
    due("prune(12) after bring", x.prune(12), 5);
    x.forget();
    x.seal();
    due("prune(13) after forget", x.prune(13), 1);
    due("count(4)", x.count(4), 1);
  }

  /** Leaf 0 gets a row at each height; with step 4 only rows of 4 and 8 and the top are needed. */
  private static void pruneByNeed() {
    HistoryRows x = new HistoryRows();
    for (int h = 1; h <= 10; h++) { x.write(h, 0, h); if (h == 3 || h == 7) x.write(h, 1, h); x.seal(); }
    x.rule(4);
    due("prune(10)", x.prune(10), 7);
    due("archive(0, 0)", x.archive(0, 0), 7);
    due("row(0, 0, 0)", x.row(0, 0, 0), 4);
    due("row(0, 1, 0)", x.row(0, 1, 0), 8);
    due("row(0, 2, 0)", x.row(0, 2, 0), 10);
    due("row(0, 3, 0)", x.row(0, 3, 0), NONE);
    due("row(1, 0, 0)", x.row(1, 0, 0), 3);
    due("row(1, 1, 0)", x.row(1, 1, 0), 7);
    x.rule(0);
    due("prune(10)", x.prune(10), 3);
    due("archive(1, 0)", x.archive(1, 0), 3);
    due("row(0, 0, 0)", x.row(0, 0, 0), 10);
    due("row(1, 0, 0)", x.row(1, 0, 0), 7);
    due("at(1, 10)", x.at(1, 10), 7);
    due("bring()", x.bring(), 3);
    due("at(0, 8)", x.at(0, 8), 8);
    due("at(1, 4)", x.at(1, 4), 3);
  }

  private static void pruned() {
    HistoryRows x = emptyHeights(4);
    x.prune(3);
    int[] gone = {1, 1, 1, 0, 0};
    for (int h = 0; h <= 4; h++) due("pruned(" + h + ")", x.pruned(h), gone[h]);
    due("pruned(5)", x.pruned(5), UNKNOWN);
    due("pruned(-1)", x.pruned(-1), UNKNOWN);
    due("pruned(low)", x.pruned(LOW), UNKNOWN);
    due("pruned(high)", x.pruned(HIGH), UNKNOWN);
    x.forget();
    due("pruned(2) after forget", x.pruned(2), 1);
    x.prune(4);
    x.bring();
    due("pruned(2) after bring of another", x.pruned(2), 1);
    due("pruned(3) after bring", x.pruned(3), 0);
  }

  private static void bring() {
    HistoryRows x = fiveHeights();
    due("bring() of none", x.bring(), STATE);
    x.prune(3); x.prune(5);
    due("count(3)", x.count(3), 3);
    x.write(60, 3, 1); x.seal(); x.write(70, 3, 2);
    due("bring()", x.bring(), 2);
    due("at(3, 4)", x.at(3, 4), 9);
    due("at(3, 3)", x.at(3, 3), 0);
    due("blame(3, 3, 0)", x.blame(3, 3, 0), 30);
    due("at(3, 2)", x.at(3, 2), PRUNED - FAR);
    due("count(4)", x.count(4), 1);
    due("count(1): the block stays", x.count(1), 1);
    due("row(3, 0, 0)", x.row(3, 0, 0), 3);
    due("bring()", x.bring(), 1);
    due("at(3, 2)", x.at(3, 2), 7);
    due("row(3, 0, 0)", x.row(3, 0, 0), 1);
    due("row(3, 4, 0)", x.row(3, 4, 0), 6);
    due("row(3, 5, 0)", x.row(3, 5, 0), NONE);
    due("count(5)", x.count(5), 0);
    due("count(3)", x.count(3), 0);
    due("bring() of none", x.bring(), STATE);
    x.prune(1);
    due("bring() without rows", x.bring(), 0);
    due("pruned(0)", x.pruned(0), 0);
  }

  private static void forget() {
    HistoryRows x = fiveHeights();
    due("forget() of none", x.forget(), 0);
    x.prune(3); x.prune(5);
    due("forget()", x.forget(), 3);
    due("forget() again", x.forget(), 0);
    due("count(2)", x.count(2), 2);
    due("count(3)", x.count(3), 0);
    due("count(4)", x.count(4), 0);
    due("count(5)", x.count(5), 5);
    due("bring()", x.bring(), STATE);
    due("archive(0, 0)", x.archive(0, 0), UNKNOWN);
    due("at(3, 4)", x.at(3, 4), PRUNED - FAR);
    due("at(3, 5)", x.at(3, 5), 7);
    due("at(8, 5)", x.at(8, 5), -1);
    due("row(3, 0, 0)", x.row(3, 0, 0), 5);
    due("row(3, 0, 1)", x.row(3, 0, 1), 50);
    due("row(8, 0, 1)", x.row(8, 0, 1), 20);
    x.seal();
    due("prune(6)", x.prune(6), 1);
    due("archive(0, 1)", x.archive(0, 1), 1);
    due("bring()", x.bring(), 0);
    due("count(5)", x.count(5), 5);
  }

  private static void archive() {
    HistoryRows x = fiveHeights();
    due("archive(0, 0)", x.archive(0, 0), UNKNOWN);
    x.prune(1); x.prune(4); x.prune(5);
    int[] rows = {0, 2, 1};
    int[] heights = {1, 3, 1};
    for (int i = 0; i < 3; i++) {
      due("archive(" + i + ", 0)", x.archive(i, 0), rows[i]);
      due("archive(" + i + ", 1)", x.archive(i, 1), heights[i]);
    }
    due("archive(3, 0)", x.archive(3, 0), UNKNOWN);
    due("archive(3, 2)", x.archive(3, 2), UNKNOWN);
    due("archive(-1, 0)", x.archive(-1, 0), UNKNOWN);
    due("archive(low, 0)", x.archive(LOW, 0), UNKNOWN);
    due("archive(8, 1)", x.archive(8, 1), UNKNOWN);
    due("archive(0, 2)", x.archive(0, 2), OUTSIDE);
    due("archive(0, -1)", x.archive(0, -1), OUTSIDE);
    x.bring();
    due("archive(2, 0)", x.archive(2, 0), UNKNOWN);
    due("archive(1, 0)", x.archive(1, 0), 2);
  }

  private static void replay() {
    HistoryRows x = fiveHeights();
    for (int from = 0; from <= 5; from++) {
      for (int to = from; to <= 5; to++) due("replay(" + from + ", " + to + ")", x.replay(from, to), x.digest(to));
    }
    due("replay(1, 0)", x.replay(1, 0), OUTSIDE - FAR);
    due("replay(6, 0)", x.replay(6, 0), UNKNOWN - FAR);
    due("replay(0, 6)", x.replay(0, 6), UNKNOWN - FAR);
    due("replay(0, -1)", x.replay(0, -1), UNKNOWN - FAR);
    due("replay(-1, 0)", x.replay(-1, 0), UNKNOWN - FAR);
    x.rule(2); x.prune(4);
    due("replay(1, 4)", x.replay(1, 4), PRUNED - FAR);
    due("replay(0, 3)", x.replay(0, 3), PRUNED - FAR);
    due("replay(3, 1)", x.replay(3, 1), OUTSIDE - FAR);
    due("replay(3, 6)", x.replay(3, 6), UNKNOWN - FAR);
    due("replay(0, 5)", x.replay(0, 5), x.digest(5));
    due("replay(2, 4)", x.replay(2, 4), x.digest(4));
    due("count(0)", x.count(0), 5);
    due("now(3)", x.now(3), 7);
  }

  private static void replayed() {
    HistoryRows x = fiveHeights();
    due("replayed(0, 5)", x.replayed(0, 5), 5);
    due("replayed(1, 5)", x.replayed(1, 5), 4);
    due("replayed(1, 4)", x.replayed(1, 4), 3);
    due("replayed(3, 3)", x.replayed(3, 3), 0);
    due("replayed(0, 0)", x.replayed(0, 0), 0);
    due("replayed(1, 0)", x.replayed(1, 0), OUTSIDE);
    due("replayed(6, 0)", x.replayed(6, 0), UNKNOWN);
    due("replayed(0, 6)", x.replayed(0, 6), UNKNOWN);
    due("replayed(-1, 0)", x.replayed(-1, 0), UNKNOWN);
    due("replayed(5, -1)", x.replayed(5, -1), UNKNOWN);
    x.rule(2); x.prune(4);
    due("replayed(1, 4)", x.replayed(1, 4), PRUNED);
    due("replayed(0, 3)", x.replayed(0, 3), PRUNED);
    due("replayed(3, 1)", x.replayed(3, 1), OUTSIDE);
    due("replayed(0, 5): row 3 is archived", x.replayed(0, 5), 4);
    due("replayed(2, 4)", x.replayed(2, 4), 1);
    x.bring();
    due("replayed(2, 4) brought back", x.replayed(2, 4), 2);
  }

  private static void proof() {
    HistoryRows x = fiveHeights();
    for (int leaf = 0; leaf < 32; leaf += 31) x.write(1, leaf, 1000 + leaf);
    x.seal();
    for (int h = 0; h <= 6; h += 3) {
      int[] state = stateOf(x, h);
      for (int leaf = 0; leaf < 32; leaf += 7) {
        for (int i = 0; i < 5; i++) {
          int beside = ((leaf >> i) ^ 1) << i;
          due("proof(" + leaf + ", " + h + ", " + i + ")", x.proof(leaf, h, i), tree(state, beside, 1 << i));
        }
      }
    }
    due("proof(0, 0, 5)", x.proof(0, 0, 5), OUTSIDE - FAR);
    due("proof(0, 0, -1)", x.proof(0, 0, -1), OUTSIDE - FAR);
    due("proof(0, 0, low)", x.proof(0, 0, LOW), OUTSIDE - FAR);
    due("proof(32, 0, 5)", x.proof(32, 0, 5), UNKNOWN - FAR);
    due("proof(-1, 0, 0)", x.proof(-1, 0, 0), UNKNOWN - FAR);
    due("proof(0, 7, 5)", x.proof(0, 7, 5), UNKNOWN - FAR);
    due("proof(0, -1, 0)", x.proof(0, -1, 0), UNKNOWN - FAR);
    x.prune(3);
    due("proof(0, 2, 0)", x.proof(0, 2, 0), PRUNED - FAR);
    due("proof(0, 2, 5)", x.proof(0, 2, 5), OUTSIDE - FAR);
    due("proof(2, 4, 0)", x.proof(2, 4, 0), 9 * 31 + 3);
  }

  private static void lay() {
    HistoryRows x = new HistoryRows();
    for (int i = 0; i < 5; i++) due("lay(" + i + ", " + (i - 102) + ")", x.lay(i, i - 102), 0);
    for (int i = 0; i < 5; i++) due("lay(" + i + ", low)", x.lay(i, LOW), i - 102);
    due("lay(4, high)", x.lay(4, HIGH), LOW);
    due("lay(4, 0)", x.lay(4, 0), HIGH);
    due("lay(5, 0)", x.lay(5, 0), OUTSIDE);
    due("lay(-1, 0)", x.lay(-1, 0), OUTSIDE);
    due("lay(low, 0)", x.lay(LOW, 0), OUTSIDE);
    due("lay(high, 0)", x.lay(HIGH, 0), OUTSIDE);
    due("lay(0, 1)", x.lay(0, 1), LOW);
    x.seal(); x.back(0);
    due("lay(0, 1) after back", x.lay(0, 1), 1);
  }

  private static void proves() {
    HistoryRows x = fiveHeights();
    int[] leaves = {3, 8, 0, 31, 21};
    for (int leaf : leaves) {
      for (int i = 0; i < 5; i++) x.lay(i, (int) x.proof(leaf, 4, i));
      int held = (int) x.at(leaf, 4);
      due("proves(" + leaf + ", " + held + ", 4)", x.proves(leaf, held, 4), 1);
      due("proves(" + leaf + ", other, 4)", x.proves(leaf, held + 1, 4), 0);
      due("proves(" + (leaf ^ 1) + ", " + held + ", 4)", x.proves(leaf ^ 1, held, 4), 0);
      due("proves(" + leaf + ", " + held + ", 2): leaf 3 held another value", x.proves(leaf, held, 2), 0);
      x.lay(2, x.lay(2, 0) + 1);
      due("proves(" + leaf + ", " + held + ", 4) by a false proof", x.proves(leaf, held, 4), 0);
    }
    for (int i = 0; i < 5; i++) x.lay(i, (int) x.proof(3, 4, i));
    due("proves(3, 7, 5): the rest is the same", x.proves(3, 7, 5), 1);
    due("proves(3, 7, 2)", x.proves(3, 7, 2), 1);
    due("proves(3, 7, 1)", x.proves(3, 7, 1), 0);
    due("proves(32, 9, 4)", x.proves(32, 9, 4), UNKNOWN);
    due("proves(-1, 9, 4)", x.proves(-1, 9, 4), UNKNOWN);
    due("proves(3, 9, 6)", x.proves(3, 9, 6), UNKNOWN);
    due("proves(3, 9, -1)", x.proves(3, 9, -1), UNKNOWN);
    x.prune(5); x.forget();
    due("proves(3, 9, 4) of a pruned height", x.proves(3, 9, 4), 1);
    due("proves(3, 8, 4) of a pruned height", x.proves(3, 8, 4), 0);
  }

  private static void back() {
    HistoryRows x = fiveHeights();
    due("back(6)", x.back(6), UNKNOWN);
    due("back(-1)", x.back(-1), UNKNOWN);
    x.write(1, 3, 2);
    due("back(5)", x.back(5), 0);
    due("count(1): the block is empty", x.count(1), 0);
    due("now(3)", x.now(3), 7);
    x.prune(1);
    due("back(0) with an archive", x.back(0), STATE);
    due("back(6) with an archive", x.back(6), UNKNOWN);
    x.forget();
    due("back(0)", x.back(0), PRUNED);
    x.write(1, 3, 2);
    due("back(2)", x.back(2), 3);
    due("count(0)", x.count(0), 2);
    due("count(1)", x.count(1), 0);
    due("count(2)", x.count(2), 2);
    due("count(5)", x.count(5), 1);
    due("now(3)", x.now(3), 7);
    due("now(8)", x.now(8), -1);
    due("at(3, 3)", x.at(3, 3), UNKNOWN - FAR);
    due("digest(3)", x.digest(3), UNKNOWN - FAR);
    due("row(3, 1, 0)", x.row(3, 1, 0), NONE);
    due("first(3, 9)", x.first(3, 9), NONE);
    x.write(1, 3, 7);
    due("seal()", x.seal(), 3);
    due("count(2): no other value", x.count(2), 2);
    HistoryRows y = fiveHeights();
    y.rule(2); y.prune(4); y.forget();
    due("back(2)", y.back(2), 2);
    due("count(5): height 3 never was", y.count(5), 1);
    due("seal()", y.seal(), 3);
    due("pruned(3)", y.pruned(3), 0);
    due("at(3, 3)", y.at(3, 3), 7);
    due("rule(2): it stays", y.rule(2), 2);
    due("back(1)", y.back(1), PRUNED);
    due("back(0)", y.back(0), 2);
    due("count(2)", y.count(2), 0);
    due("now(3)", y.now(3), 0);
  }

  private static void row() {
    HistoryRows x = fiveHeights();
    int[] heights = {1, 3, 4, 5};
    int[] calls = {10, 30, 40, 50};
    for (int k = 0; k < 4; k++) {
      due("row(3, " + k + ", 0)", x.row(3, k, 0), heights[k]);
      due("row(3, " + k + ", 1)", x.row(3, k, 1), calls[k]);
    }
    due("row(3, 4, 0)", x.row(3, 4, 0), NONE);
    due("row(3, -1, 0)", x.row(3, -1, 0), NONE);
    due("row(3, low, 1)", x.row(3, LOW, 1), NONE);
    due("row(3, high, 1)", x.row(3, HIGH, 1), NONE);
    due("row(0, 0, 0)", x.row(0, 0, 0), NONE);
    due("row(8, 0, 1)", x.row(8, 0, 1), 20);
    due("row(3, 0, 2)", x.row(3, 0, 2), OUTSIDE);
    due("row(3, 9, -1)", x.row(3, 9, -1), OUTSIDE);
    due("row(32, 0, 2)", x.row(32, 0, 2), UNKNOWN);
    due("row(-1, 0, 0)", x.row(-1, 0, 0), UNKNOWN);
    x.prune(4);
    due("row(3, 0, 0) of those that there are", x.row(3, 0, 0), 4);
    due("row(3, 2, 0)", x.row(3, 2, 0), NONE);
  }

  private static void count() {
    HistoryRows x = fiveHeights();
    x.write(1, 1, 1); x.write(1, 1, 2);
    x.prune(1); x.prune(4);
    int[] due = {5, 2, 3, 2, 2, 4};
    for (int what = 0; what <= 5; what++) due("count(" + what + ")", x.count(what), due[what]);
    due("count(6)", x.count(6), OUTSIDE);
    due("count(-1)", x.count(-1), OUTSIDE);
    due("count(low)", x.count(LOW), OUTSIDE);
    due("count(high)", x.count(HIGH), OUTSIDE);
    x.forget();
    int[] left = {5, 2, 3, 0, 0, 4};
    for (int what = 0; what <= 5; what++) due("count(" + what + ") after forget", x.count(what), left[what]);
  }

  private static void clear() {
    HistoryRows x = fiveHeights();
    x.rule(2); x.prune(2); x.lay(0, 5); x.lay(4, 6);
    x.write(9, 3, 5); x.write(9, 30, 5);
    x.replay(3, 5); x.differs(4, 5); x.proof(3, 5, 0);
    due("clear()", x.clear(), 5);
    newObject(x);
    due("clear() again", x.clear(), 0);
    HistoryRows y = fiveHeights();
    y.prune(5); y.forget();
    due("clear()", y.clear(), 5);
    newObject(y);
    due("write(0, 3, 7)", y.write(0, 3, 7), 1);
    due("seal()", y.seal(), 1);
    due("row(3, 0, 1)", y.row(3, 0, 1), 0);
  }

  private static void newObject(HistoryRows x) {
    for (int what = 0; what <= 5; what++) due("count(" + what + ") after clear", x.count(what), 0);
    for (int leaf = 0; leaf < 32; leaf++) {
      due("at(" + leaf + ", 0) after clear", x.at(leaf, 0), 0);
      due("now(" + leaf + ") after clear", x.now(leaf), 0);
      due("row(" + leaf + ", 0, 0) after clear", x.row(leaf, 0, 0), NONE);
    }
    due("digest(0) after clear", x.digest(0), -1692335658L);
    due("digest(1) after clear", x.digest(1), UNKNOWN - FAR);
    due("rule(0) after clear", x.rule(0), 0);
    for (int i = 0; i < 5; i++) due("lay(" + i + ", 0) after clear", x.lay(i, 0), 0);
    due("bring() after clear", x.bring(), STATE);
  }
}
