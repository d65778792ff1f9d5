// Each sentence of the document that names a boundary which is no refusal, by a test of its own:
// the empty and the full, the first and the last, the wrap-around of 32 bits. What a failed test
// prints begins with the sentence. Refusals are in HistoryRowsRefusals.
public final class HistoryRowsEdges {
  private static final int LOW = Integer.MIN_VALUE, HIGH = Integer.MAX_VALUE;
  private static final int NONE = -1, UNKNOWN = -101, OUTSIDE = -102, STATE = -103, PRUNED = -104, ROOM = -105;
  private static final long FAR = 4000000000L;
  private static final int[] VALUES = {LOW, LOW + 1, -2000000000, -105, -104, -103, -102, -101, -2, -1, 1, 2, 65536, HIGH - 1, HIGH};

  private static int wrong = 0;
  private static int tests = 0;
  private static String sentence = "";

  private static void test(String words, Runnable steps) {
    sentence = words;
    tests++;
    steps.run();
  }

  private static void due(String call, long got, long want) {
    if (got == want) return;
    wrong++;
    System.out.println("\"" + sentence + "\": " + call + " answered " + got + ", due is " + want);
  }

  private static void dueCounts(HistoryRows x, int... want) {
    for (int what = 0; what < 6; what++) due("count(" + what + ")", x.count(what), want[what]);
  }

  public static void main(String[] args) {
    terms();
    blocksAndRows();
    digests();
    pruning();
    archives();
    replaysAndProofs();
    stepsBack();
    answers();
    System.out.println(wrong == 0 ? tests + " sentences hold" : wrong + " answers are not as due");
    if (wrong != 0) System.exit(1);
  }

  private static void terms() {
    test("LEAVES are 0 to 31", HistoryRowsEdges::thirtyTwoLeaves);
    test("VALUES any number of 32 bits", HistoryRowsEdges::anyValue);
    test("VALUES .. 0 at first", HistoryRowsEdges::zeroAtFirst);
    test("the first of these that fits: UNKNOWN -101, OUTSIDE -102, STATE -103, PRUNED -104, ROOM -105", HistoryRowsEdges::refusalNumbers);
    test("What answers a long (it may be any number) answers these 4000000000 less", HistoryRowsEdges::longRefusals);
    test("NONE is -1", HistoryRowsEdges::noneIsNoZero);
    test("An object is used for at most 512 calls", HistoryRowsEdges::fiveHundredAndTwelveCalls);
  }

  private static void blocksAndRows() {
    test("HEIGHT is 0 at first, 200 at most", HistoryRowsEdges::heightIs0To200);
    test("THE BLOCK has WRITES, 60 at most", HistoryRowsEdges::sixtyWrites);
    test("a CALL (0 to 999, none less than that of the one before)", HistoryRowsEdges::callsDoNotFall);
    test("SEALED, HEIGHT is one more, and THE BLOCK is empty again", HistoryRowsEdges::sealedBlockIsEmpty);
    test("THE STATE of a HEIGHT is what LEAVES hold behind its BLOCK", HistoryRowsEdges::stateIsBehindTheBlock);
    test("A LEAF that has another VALUE behind a BLOCK than ahead of it gets a ROW", HistoryRowsEdges::onlyOtherValuesGetRows);
    test("a ROW: this HEIGHT, the VALUE, the CALL of its last WRITE there", HistoryRowsEdges::callOfTheLastWrite);
    test("There are 400 ROWS at most", HistoryRowsEdges::fourHundredRows);
    test("400 ROWS at most (archived ones too)", HistoryRowsEdges::archivedRowsCount);
    test("400 ROWS at most: those that went make room", HistoryRowsEdges::goneRowsMakeRoom);
  }

  private static void digests() {
    test("DIGEST of a STATE", HistoryRowsEdges::digestsOfSmallStates);
    test("all in 32 bits, wrapping", HistoryRowsEdges::digestsWrap);
    test("of LEAVES 0 and 1, 2 and 3 ..", HistoryRowsEdges::everyLeafCounts);
    test("DIGESTS of all HEIGHTS stay", HistoryRowsEdges::digestsStay);
  }

  private static void pruning() {
    test("THE RULE tells a STEP, 0 at first", HistoryRowsEdges::stepZeroSparesNone);
    test("with a STEP above 0, HEIGHTS that are multiples of it are not pruned", HistoryRowsEdges::multiplesAreSpared);
    test("the STEP (0 to 100): what it was", HistoryRowsEdges::stepIs0To100);
    test("(What is PRUNED stays so.)", HistoryRowsEdges::prunedStaysSo);
    test("all is pruned before a HEIGHT, those below it", HistoryRowsEdges::onlyBelowIsPruned);
    test("those below it that are not", HistoryRowsEdges::prunedOnce);
    test("NEEDED, if some HEIGHT that is not PRUNED is at its HEIGHT", HistoryRowsEdges::neededAtItsHeight);
    test("NEEDED .. or above, and below that of the next ROW", HistoryRowsEdges::neededBelowTheNext);
    test("the next ROW of the LEAF (if there is one)", HistoryRowsEdges::lastRowsStay);
    test("a ROW's leaf alone tells the next ROW", HistoryRowsEdges::nextRowIsOfTheLeaf);
  }

  private static void archives() {
    test("into an ARCHIVE, if any HEIGHT was pruned", HistoryRowsEdges::noArchiveOfNothing);
    test("8 ARCHIVES at most, 0, 1, ..", HistoryRowsEdges::eightArchives);
    test("one may have no ROWS", HistoryRowsEdges::archiveWithoutRows);
    test("ROOM: 8 ARCHIVES, and some would be", HistoryRowsEdges::roomForNothing);
    test("The newest ARCHIVE may come back", HistoryRowsEdges::newestComesBack);
    test("its ROWS are where they were", HistoryRowsEdges::rowsAreWhereTheyWere);
    test("the HEIGHTS that were pruned then are so no more; it is gone", HistoryRowsEdges::broughtHeights);
    test("ARCHIVES may be forgotten, all: their ROWS are no more", HistoryRowsEdges::allForgotten);
    test("and their HEIGHTS stay PRUNED", HistoryRowsEdges::forgottenHeightsStayPruned);
    test("A ROW's CALL and HEIGHT answer for what its LEAF holds from then on", HistoryRowsEdges::blameFromThenOn);
  }

  private static void replaysAndProofs() {
    test("A REPLAY from one HEIGHT to another one not below it", HistoryRowsEdges::replayToItself);
    test("HEIGHT by HEIGHT the ROWS that there are of it are done", HistoryRowsEdges::replayOfRowsThereAre);
    test("DIGEST of what comes is that of the other HEIGHT", HistoryRowsEdges::replayOfAll);
    test("A PROOF of a LEAF at a HEIGHT are five numbers", HistoryRowsEdges::proofNumbers);
    test("What is LAID (five numbers, 0 at first)", HistoryRowsEdges::laidNumbers);
    test("each of the two on its side", HistoryRowsEdges::sidesOfAProof);
    test("comes to the DIGEST of a HEIGHT (also of one that is PRUNED)", HistoryRowsEdges::provesPruned);
  }

  private static void stepsBack() {
    test("BACK to a HEIGHT: HEIGHT is that", HistoryRowsEdges::backToTopAndBottom);
    test("what is above is as if it never was", HistoryRowsEdges::aboveNeverWas);
    test("(no ROWS, DIGESTS; ARCHIVES must be none then)", HistoryRowsEdges::backWithoutArchives);
    test("THE BLOCK is empty", HistoryRowsEdges::backEmptiesTheBlock);
  }

  private static void answers() {
    test("drop: how many WRITES it had", HistoryRowsEdges::dropAnswers);
    test("now: what a LEAF would hold behind THE BLOCK", HistoryRowsEdges::nowSeesTheBlock);
    test("blame: NONE: it holds 0 from the beginning", HistoryRowsEdges::blameOfZero);
    test("first: the least HEIGHT that is not PRUNED; NONE", HistoryRowsEdges::firstOfKept);
    test("differs: how many LEAVES hold unlike VALUES", HistoryRowsEdges::noneAndAllDiffer);
    test("difference: the k-th of these, from 0 on, by numbers; NONE", HistoryRowsEdges::firstAndLastDifference);
    test("row: ROW k that there is of a LEAF, by HEIGHTS; NONE: there is none such", HistoryRowsEdges::firstAndLastRow);
    test("count: HEIGHT, WRITES, ROWS, archived ones, ARCHIVES, PRUNED", HistoryRowsEdges::emptyAndFullCounts);
    test("clear: all is as at the beginning (THE RULE, what is LAID, too): HEIGHT as it was", HistoryRowsEdges::clearedIsNew);
  }

  // ---- helpers

  /** Writes of 1, 2 .. to leaves in turn, sealed by 32, until there are n rows. */
  private static HistoryRows withRows(int n) {
    HistoryRows x = new HistoryRows();
    for (int i = 0; i < n; i++) {
      x.write(i / 32, i % 32, i + 1);
      if (i % 32 == 31 || i == n - 1) x.seal();
    }
    return x;
  }

  private static HistoryRows withHeights(int n) {
    HistoryRows x = new HistoryRows();
    for (int i = 0; i < n; i++) x.seal();
    return x;
  }

  /** Leaf 0 gets row h with value h by call h at each of the heights. */
  private static HistoryRows withRowsAt(int top, int... heights) {
    HistoryRows x = new HistoryRows();
    for (int h = 1; h <= top; h++) {
      for (int wanted : heights) if (wanted == h) x.write(h, 0, h);
      x.seal();
    }
    return x;
  }

  private static void sealOne(HistoryRows x, int call, int leaf, int v) {
    x.write(call, leaf, v);
    x.seal();
  }

  /** The document's digest in unsigned numbers of 64 bits, cut to 32 after each step. */
  private static long joinWide(long l, long r) {
    long x = (31 * l + r) & 0xFFFFFFFFL;
    return ((x ^ (x >> 15)) * 0x2C1B3C6DL) & 0xFFFFFFFFL;
  }

  private static long leafWide(int leaf, int v) { return ((v & 0xFFFFFFFFL) * 31 + leaf) & 0xFFFFFFFFL; }

  private static long nodeWide(int[] state, int from, int n) {
    if (n == 1) return leafWide(from, state[from]);
    return joinWide(nodeWide(state, from, n / 2), nodeWide(state, from + n / 2, n / 2));
  }

  private static long digestOf(int[] state) { return (int) nodeWide(state, 0, 32); }

  private static void layProof(HistoryRows x, int[] state, int leaf) {
    for (int i = 0; i < 5; i++) x.lay(i, (int) nodeWide(state, ((leaf >> i) ^ 1) << i, 1 << i));
  }

  // ---- terms

  private static void thirtyTwoLeaves() {
    HistoryRows x = new HistoryRows();
    for (int leaf = 0; leaf < 32; leaf++) due("write(1, " + leaf + ", ..)", x.write(1, leaf, 100 + leaf), leaf + 1);
    x.seal();
    for (int leaf = 0; leaf < 32; leaf++) {
      due("at(" + leaf + ", 1)", x.at(leaf, 1), 100 + leaf);
      due("now(" + leaf + ")", x.now(leaf), 100 + leaf);
      due("first(" + leaf + ", ..)", x.first(leaf, 100 + leaf), 1);
      due("blame(" + leaf + ", 1, 1)", x.blame(leaf, 1, 1), 1);
      due("row(" + leaf + ", 0, 0)", x.row(leaf, 0, 0), 1);
      due("proof(" + leaf + ", 1, 0)", x.proof(leaf, 1, 0), (100 + (leaf ^ 1)) * 31 + (leaf ^ 1));
    }
  }

  private static void anyValue() {
    for (int v : VALUES) {
      HistoryRows x = new HistoryRows();
      due("write(0, 31, " + v + ")", x.write(0, 31, v), 1);
      due("now(31)", x.now(31), v);
      x.seal();
      due("at(31, 1)", x.at(31, 1), v);
      due("first(31, " + v + ")", x.first(31, v), 1);
      due("first(31, " + (v - 1) + ")", x.first(31, v - 1), v == 1 ? 0 : NONE);
      int[] state = new int[32];
      state[31] = v;
      due("digest(1)", x.digest(1), digestOf(state));
      layProof(x, state, 31);
      due("proves(31, " + v + ", 1)", x.proves(31, v, 1), 1);
      due("proves(31, " + v + ", 0)", x.proves(31, v, 0), 0);
    }
  }

  private static void zeroAtFirst() {
    HistoryRows x = new HistoryRows();
    for (int leaf = 0; leaf < 32; leaf++) {
      due("now(" + leaf + ")", x.now(leaf), 0);
      due("at(" + leaf + ", 0)", x.at(leaf, 0), 0);
      due("first(" + leaf + ", 0)", x.first(leaf, 0), 0);
    }
    dueCounts(x, 0, 0, 0, 0, 0, 0);
  }

  private static void refusalNumbers() {
    due("UNKNOWN", HistoryRows.UNKNOWN, -101);
    due("OUTSIDE", HistoryRows.OUTSIDE, -102);
    due("STATE", HistoryRows.STATE, -103);
    due("PRUNED", HistoryRows.PRUNED, -104);
    due("ROOM", HistoryRows.ROOM, -105);
    HistoryRows x = withHeights(1);
    x.prune(1);
    due("pruned(2)", x.pruned(2), -101);
    due("count(6)", x.count(6), -102);
    due("back(0)", x.back(0), -103);
    due("differs(0, 1)", x.differs(0, 1), -104);
    for (int n = 0; n < 60; n++) x.write(0, 0, n);
    due("write 61", x.write(0, 0, 60), -105);
  }

  private static void longRefusals() {
    HistoryRows x = withHeights(2);
    x.prune(1);
    due("at(32, 1)", x.at(32, 1), -4000000101L);
    due("at(0, 3)", x.at(0, 3), -4000000101L);
    due("at(0, 0)", x.at(0, 0), -4000000104L);
    due("now(-1)", x.now(-1), -4000000101L);
    due("digest(3)", x.digest(3), -4000000101L);
    due("replay(1, 3)", x.replay(1, 3), -4000000101L);
    due("replay(2, 1)", x.replay(2, 1), -4000000102L);
    due("replay(0, 1)", x.replay(0, 1), -4000000104L);
    due("proof(0, 3, 0)", x.proof(0, 3, 0), -4000000101L);
    due("proof(0, 1, 5)", x.proof(0, 1, 5), -4000000102L);
    due("proof(0, 0, 0)", x.proof(0, 0, 0), -4000000104L);
    // Values that look like refusals, or wrap to what a refusal would be in 32 bits.
    for (int v : new int[] {-101, -102, -104, (int) -4000000101L, (int) -4000000104L}) {
      x.write(0, 5, v);
      due("now(5)", x.now(5), v);
    }
    x.write(0, 6, -104);
    x.seal();
    due("at(6, 3)", x.at(6, 3), -104);
    due("at(5, 3)", x.at(5, 3), (int) -4000000104L);
  }

  private static void noneIsNoZero() {
    due("NONE", HistoryRows.NONE, -1);
    HistoryRows x = new HistoryRows();
    sealOne(x, 0, 0, -1);
    due("blame(0, 1, 0): call 0", x.blame(0, 1, 0), 0);
    due("blame(0, 0, 0)", x.blame(0, 0, 0), -1);
    due("first(0, 0): height 0", x.first(0, 0), 0);
    due("first(0, 1)", x.first(0, 1), -1);
    due("difference(0, 1, 0): leaf 0", x.difference(0, 1, 0), 0);
    due("difference(0, 1, 1)", x.difference(0, 1, 1), -1);
    due("row(0, 0, 1): call 0", x.row(0, 0, 1), 0);
    due("row(0, 1, 1)", x.row(0, 1, 1), -1);
    due("at(0, 1): a value, not NONE", x.at(0, 1), -1);
  }

  private static void fiveHundredAndTwelveCalls() {
    HistoryRows x = new HistoryRows();
    for (int n = 1; n <= 200; n++) { x.write(n, n % 32, n); due("seal " + n, x.seal(), n); }
    for (int h = 1; h <= 111; h++) due("at(.., " + h + ")", x.at(h % 32, h), h);
    due("call 512: count(2)", x.count(2), 200);
  }

  // ---- blocks and rows

  private static void heightIs0To200() {
    HistoryRows x = new HistoryRows();
    due("count(0)", x.count(0), 0);
    for (int h = 1; h <= 200; h++) due("seal()", x.seal(), h);
    due("seal() 201", x.seal(), ROOM);
    due("count(0)", x.count(0), 200);
    due("pruned(200)", x.pruned(200), 0);
    due("pruned(201)", x.pruned(201), UNKNOWN);
    due("prune(200)", x.prune(200), 200);
    due("seal(): pruned heights count", x.seal(), ROOM);
    due("forget()", x.forget(), 0);
    due("seal(): forgotten ones too", x.seal(), ROOM);
    due("back(200)", x.back(200), 0);
    due("seal()", x.seal(), ROOM);
    due("clear()", x.clear(), 200);
    due("seal()", x.seal(), 1);
  }

  private static void sixtyWrites() {
    HistoryRows x = new HistoryRows();
    due("count(1)", x.count(1), 0);
    fillBlock(x, "at first");
    due("drop()", x.drop(), 60);
    fillBlock(x, "after drop");
    due("seal()", x.seal(), 1);
    fillBlock(x, "after seal");
    due("back(0)", x.back(0), 1);
    fillBlock(x, "after back");
    due("clear()", x.clear(), 0);
    fillBlock(x, "after clear");
  }

  /** Writes that change nothing are writes too. */
  private static void fillBlock(HistoryRows x, String when) {
    for (int n = 1; n <= 60; n++) due("write " + n + " " + when, x.write(9, 7, 4), n);
    due("write 61 " + when, x.write(9, 7, 5), ROOM);
    due("count(1) " + when, x.count(1), 60);
    due("now(7) " + when, x.now(7), 4);
  }

  private static void callsDoNotFall() {
    HistoryRows x = new HistoryRows();
    due("write(0, ..)", x.write(0, 1, 1), 1);
    due("write(0, ..) again", x.write(0, 2, 1), 2);
    due("write(998, ..)", x.write(998, 1, 2), 3);
    due("write(999, 32, ..)", x.write(999, 32, 2), UNKNOWN);
    due("write(998, ..): the refused one is none before it", x.write(998, 1, 3), 4);
    due("write(997, ..)", x.write(997, 1, 4), STATE);
    due("write(998, ..): nor is a lesser one", x.write(998, 1, 4), 5);
    due("write(999, ..)", x.write(999, 3, 1), 6);
    due("write(999, ..) again", x.write(999, 3, 1), 7);
    due("write(998, ..)", x.write(998, 1, 4), STATE);
    x.seal();
    due("write(0, ..) in the next block", x.write(0, 1, 1), 1);
    x.write(500, 1, 2);
    x.drop();
    due("write(0, ..) after drop", x.write(0, 1, 1), 1);
    x.write(500, 1, 2);
    x.back(1);
    due("write(0, ..) after back", x.write(0, 1, 1), 1);
    x.write(500, 1, 2);
    x.clear();
    due("write(0, ..) after clear", x.write(0, 1, 1), 1);
  }

  private static void sealedBlockIsEmpty() {
    HistoryRows x = new HistoryRows();
    due("seal() of no writes", x.seal(), 1);
    dueCounts(x, 1, 0, 0, 0, 0, 0);
    for (int n = 0; n < 60; n++) x.write(n, n % 32, n + 1);
    due("seal() of 60 writes", x.seal(), 2);
    dueCounts(x, 2, 0, 32, 0, 0, 0);
    due("drop()", x.drop(), 0);
    due("seal() again", x.seal(), 3);
    dueCounts(x, 3, 0, 32, 0, 0, 0);
  }

  private static void stateIsBehindTheBlock() {
    HistoryRows x = new HistoryRows();
    x.write(1, 4, 5);
    due("at(4, 0) with a block", x.at(4, 0), 0);
    due("at(4, 1): not sealed", x.at(4, 1), UNKNOWN - FAR);
    x.write(1, 4, 6);
    x.seal();
    due("at(4, 0)", x.at(4, 0), 0);
    due("at(4, 1): the last write", x.at(4, 1), 6);
    x.seal();
    due("at(4, 2): as at 1", x.at(4, 2), 6);
    sealOne(x, 1, 4, 0);
    due("at(4, 3): 0 again", x.at(4, 3), 0);
    due("at(4, 2)", x.at(4, 2), 6);
  }

  private static void onlyOtherValuesGetRows() {
    HistoryRows x = new HistoryRows();
    sealOne(x, 1, 4, 0);
    due("count(2): 0 over 0", x.count(2), 0);
    sealOne(x, 1, 4, 5);
    due("count(2): 5 over 0", x.count(2), 1);
    sealOne(x, 1, 4, 5);
    due("count(2): 5 over 5", x.count(2), 1);
    x.write(1, 4, 6);
    sealOne(x, 2, 4, 5);
    due("count(2): 6, then 5 over 5", x.count(2), 1);
    x.write(1, 4, 5);
    sealOne(x, 2, 4, 6);
    due("count(2): 5, then 6 over 5", x.count(2), 2);
    sealOne(x, 1, 4, 0);
    due("count(2): 0 over 6", x.count(2), 3);
    for (int leaf = 0; leaf < 32; leaf++) x.write(1, leaf, 1);
    x.seal();
    due("count(2): all 32 others", x.count(2), 35);
  }

  private static void callOfTheLastWrite() {
    HistoryRows x = new HistoryRows();
    x.write(0, 1, 5); x.write(3, 1, 6); x.write(3, 2, 6); x.write(999, 3, 6);
    x.seal();
    due("row(1, 0, 0)", x.row(1, 0, 0), 1);
    due("row(1, 0, 1)", x.row(1, 0, 1), 3);
    due("row(3, 0, 1)", x.row(3, 0, 1), 999);
    due("at(1, 1)", x.at(1, 1), 6);
    x.write(4, 1, 7); x.write(5, 1, 7); x.write(6, 2, 9);
    x.seal();
    due("row(1, 1, 0)", x.row(1, 1, 0), 2);
    due("row(1, 1, 1): the last one, though 7 stood there already", x.row(1, 1, 1), 5);
    x.write(7, 1, 8); x.drop(); x.write(2, 2, 1);
    x.seal();
    due("row(1, 2, 1): what was dropped leaves none", x.row(1, 2, 1), NONE);
    due("row(2, 2, 1)", x.row(2, 2, 1), 2);
  }

  private static void fourHundredRows() {
    HistoryRows x = withRows(399);
    x.write(0, 20, 1); x.write(0, 21, 1);
    due("seal() to 401", x.seal(), ROOM);
    dueCounts(x, 13, 2, 399, 0, 0, 0);
    x.drop();
    x.write(0, 20, 1);
    due("seal() to 400", x.seal(), 14);
    dueCounts(x, 14, 0, 400, 0, 0, 0);
    due("seal() of nothing", x.seal(), 15);
    x.write(0, 20, 2);
    due("seal() to 401", x.seal(), ROOM);
    x.write(0, 20, 1);
    due("seal(): there and back", x.seal(), 16);
    due("at(20, 16)", x.at(20, 16), 1);
    due("row(20, 12, 0)", x.row(20, 12, 0), 14);
    due("replay(0, 16)", x.replay(0, 16), x.digest(16));
    due("replayed(0, 16)", x.replayed(0, 16), 400);
  }

  private static void archivedRowsCount() {
    HistoryRows x = withRows(400);
    due("prune(13)", x.prune(13), 13);
    dueCounts(x, 13, 0, 32, 368, 1, 13);
    x.write(0, 0, -1);
    due("seal() to 401", x.seal(), ROOM);
    due("bring()", x.bring(), 368);
    dueCounts(x, 13, 1, 400, 0, 0, 0);
    due("seal() to 401", x.seal(), ROOM);
    due("prune(12)", x.prune(12), 12);
    due("seal() to 401", x.seal(), ROOM);
    x.drop();
    due("seal() of nothing", x.seal(), 14);
  }

  private static void goneRowsMakeRoom() {
    HistoryRows x = withRows(400);
    x.write(0, 0, -1);
    x.prune(13);
    due("forget()", x.forget(), 368);
    due("seal() after forget", x.seal(), 14);
    due("count(2)", x.count(2), 33);
    HistoryRows y = withRows(400);
    due("back(12)", y.back(12), 16);
    for (int leaf = 0; leaf < 17; leaf++) y.write(0, leaf, -1);
    due("seal() to 401", y.seal(), ROOM);
    y.drop();
    for (int leaf = 0; leaf < 16; leaf++) y.write(0, leaf, -1);
    due("seal() to 400 after back", y.seal(), 13);
    due("clear()", y.clear(), 13);
    for (int leaf = 0; leaf < 32; leaf++) y.write(0, leaf, -1);
    due("seal() after clear", y.seal(), 1);
    due("count(2)", y.count(2), 32);
  }

  // ---- digests

  private static void digestsOfSmallStates() {
    HistoryRows x = new HistoryRows();
    due("digest(0)", x.digest(0), -1692335658L);
    due("digest(0) in wide numbers", x.digest(0), digestOf(new int[32]));
    x.write(5, 3, 9);
    due("digest(0) with a block", x.digest(0), -1692335658L);
    x.seal();
    due("digest(1)", x.digest(1), -291335425L);
    x.write(5, 3, 7);
    sealOne(x, 5, 30, 1);
    due("digest(2)", x.digest(2), -1703874083L);
    x.write(5, 3, 0);
    sealOne(x, 5, 30, 0);
    due("digest(3): as at first", x.digest(3), -1692335658L);
  }

  private static void digestsWrap() {
    HistoryRows x = new HistoryRows();
    int height = 0;
    for (int v : VALUES) {
      int[] state = new int[32];
      for (int leaf = 0; leaf < 32; leaf += 5) { state[leaf] = v + leaf; }
      for (int leaf = 0; leaf < 32; leaf += 5) x.write(0, leaf, v + leaf);
      x.seal();
      height++;
      due("digest of values about " + v, x.digest(height), digestOf(state));
      due("replay", x.replay(0, height), digestOf(state));
      for (int i = 0; i < 5; i++) {
        long beside = (int) nodeWide(state, ((5 >> i) ^ 1) << i, 1 << i);
        due("proof(5, " + height + ", " + i + ")", x.proof(5, height, i), beside);
      }
    }
    HistoryRows y = new HistoryRows();
    sealOne(y, 0, 1, HIGH);
    due("proof(0, 1, 0): 31 times 2147483647 and 1", y.proof(0, 1, 0), 2147483618L);
    sealOne(y, 0, 1, LOW);
    due("proof(0, 2, 0): 31 times -2147483648 and 1", y.proof(0, 2, 0), -2147483647L);
  }

  private static void everyLeafCounts() {
    for (int leaf = 0; leaf < 32; leaf++) {
      HistoryRows x = new HistoryRows();
      sealOne(x, 0, leaf, 1);
      int[] state = new int[32];
      state[leaf] = 1;
      due("digest with 1 at " + leaf, x.digest(1), digestOf(state));
    }
  }

  private static void digestsStay() {
    HistoryRows x = withRowsAt(200, 1, 2, 50, 100, 199, 200);
    int[] state = new int[32];
    x.prune(100);
    x.forget();
    x.prune(200);
    for (int h = 0; h <= 200; h++) {
      if (h <= 2 || h == 50 || h == 100 || h >= 199) state[0] = h;
      due("digest(" + h + ")", x.digest(h), digestOf(state));
    }
    due("digest(201)", x.digest(201), UNKNOWN - FAR);
  }

  // ---- pruning

  private static void stepZeroSparesNone() {
    HistoryRows x = withHeights(3);
    due("prune(3)", x.prune(3), 3);
    due("pruned(0)", x.pruned(0), 1);
    due("rule(0)", x.rule(0), 0);
  }

  private static void multiplesAreSpared() {
    int[] steps = {1, 2, 3, 7, 8, 99, 100};
    for (int step : steps) {
      HistoryRows x = withHeights(200);
      x.rule(step);
      int spared = 0;
      for (int h = 0; h < 200; h += step) spared++;
      due("prune(200) with step " + step, x.prune(200), 200 - spared);
      for (int h = 0; h <= 200; h++) {
        due("pruned(" + h + ") with step " + step, x.pruned(h), h % step == 0 || h == 200 ? 0 : 1);
      }
      due("count(4) with step " + step, x.count(4), step == 1 ? 0 : 1);
    }
    HistoryRows y = withHeights(5);
    y.rule(100);
    due("prune(5): of the multiples of 100 only 0 is there", y.prune(5), 4);
    due("pruned(0)", y.pruned(0), 0);
  }

  private static void stepIs0To100() {
    HistoryRows x = new HistoryRows();
    due("rule(0)", x.rule(0), 0);
    due("rule(100)", x.rule(100), 0);
    due("rule(101)", x.rule(101), OUTSIDE);
    due("rule(-1)", x.rule(-1), OUTSIDE);
    due("rule(1)", x.rule(1), 100);
    due("rule(1)", x.rule(1), 1);
    due("rule(0)", x.rule(0), 1);
    due("rule(0)", x.rule(0), 0);
  }

  private static void prunedStaysSo() {
    HistoryRows x = withHeights(6);
    x.prune(5);
    due("rule(1)", x.rule(1), 0);
    due("pruned(2)", x.pruned(2), 1);
    due("at(0, 2)", x.at(0, 2), PRUNED - FAR);
    due("count(5)", x.count(5), 5);
    due("prune(6): 5 is spared", x.prune(6), 0);
    due("bring(): the rule says nothing then", x.bring(), 0);
    due("count(5)", x.count(5), 0);
    due("prune(6): all are spared", x.prune(6), 0);
  }

  private static void onlyBelowIsPruned() {
    HistoryRows x = withHeights(4);
    due("prune(0)", x.prune(0), 0);
    due("pruned(0)", x.pruned(0), 0);
    due("prune(1)", x.prune(1), 1);
    due("pruned(0)", x.pruned(0), 1);
    due("pruned(1)", x.pruned(1), 0);
    due("prune(4)", x.prune(4), 3);
    due("pruned(3)", x.pruned(3), 1);
    due("pruned(4): HEIGHT is never below", x.pruned(4), 0);
    due("prune(5)", x.prune(5), UNKNOWN);
    HistoryRows y = new HistoryRows();
    due("prune(0) of a new object", y.prune(0), 0);
    due("prune(1) of a new object", y.prune(1), UNKNOWN);
    due("count(5)", y.count(5), 0);
  }

  private static void prunedOnce() {
    HistoryRows x = withHeights(6);
    due("prune(3)", x.prune(3), 3);
    due("prune(3) again", x.prune(3), 0);
    due("prune(2)", x.prune(2), 0);
    due("prune(5)", x.prune(5), 2);
    x.forget();
    due("prune(5) after forget", x.prune(5), 0);
    due("prune(6)", x.prune(6), 1);
    due("count(5)", x.count(5), 6);
    HistoryRows y = withHeights(6);
    y.rule(2);
    due("prune(4)", y.prune(4), 2);
    y.rule(0);
    due("prune(3): 0 and 2, though 3 itself is pruned", y.prune(3), 2);
    due("archive(1, 1)", y.archive(1, 1), 2);
  }

  private static void neededAtItsHeight() {
    HistoryRows x = withRowsAt(6, 3, 4, 5);
    x.rule(4);
    due("prune(6)", x.prune(6), 4);
    dueCounts(x, 6, 0, 2, 1, 1, 4);
    due("row(0, 0, 0): of the kept height 4", x.row(0, 0, 0), 4);
    due("row(0, 1, 0)", x.row(0, 1, 0), 5);
    due("at(0, 4)", x.at(0, 4), 4);
    due("blame(0, 4, 0)", x.blame(0, 4, 0), 4);
  }

  /** Height 4 alone is kept below the last: a row reaches it from below, or the next one does. */
  private static void neededBelowTheNext() {
    HistoryRows x = withRowsAt(8, 1, 5, 8);
    x.rule(4);
    due("prune(8): 0 and 4 are spared", x.prune(8), 6);
    due("row(0, 0, 0): 4 is just below the next row", x.row(0, 0, 0), 1);
    due("row(0, 1, 0): 5 to 7 are pruned", x.row(0, 1, 0), 8);
    due("archive(0, 0)", x.archive(0, 0), 1);
    HistoryRows y = withRowsAt(8, 1, 4, 8);
    y.rule(4);
    due("prune(8)", y.prune(8), 6);
    due("row(0, 0, 0): 4 is the next row's own", y.row(0, 0, 0), 4);
    due("archive(0, 0)", y.archive(0, 0), 1);
    due("at(0, 4)", y.at(0, 4), 4);
    HistoryRows z = withRowsAt(3, 1, 3);
    due("prune(2)", z.prune(2), 2);
    due("count(3): 2 is kept below row 3", z.count(3), 0);
    due("prune(3)", z.prune(3), 1);
    due("count(3): no more", z.count(3), 1);
  }

  private static void lastRowsStay() {
    HistoryRows x = withRowsAt(9, 1);
    due("prune(9)", x.prune(9), 9);
    due("count(2)", x.count(2), 1);
    due("archive(0, 0)", x.archive(0, 0), 0);
    due("at(0, 9)", x.at(0, 9), 1);
    due("blame(0, 9, 1): of a pruned height", x.blame(0, 9, 1), 1);
    sealOne(x, 5, 0, 6);
    due("count(2): it is needed until all below the next is pruned", x.count(2), 2);
    due("prune(9): 9 is kept", x.prune(9), 0);
    due("prune(10)", x.prune(10), 1);
    due("archive(1, 0)", x.archive(1, 0), 1);
    due("at(0, 10)", x.at(0, 10), 6);
  }

  private static void nextRowIsOfTheLeaf() {
    HistoryRows x = new HistoryRows();
    sealOne(x, 1, 0, 1);
    sealOne(x, 2, 31, 1);
    sealOne(x, 3, 15, 1);
    due("prune(3)", x.prune(3), 3);
    due("count(3): each leaf has one row", x.count(3), 0);
    due("at(0, 3)", x.at(0, 3), 1);
    due("at(31, 3)", x.at(31, 3), 1);
  }

  // ---- archives

  private static void noArchiveOfNothing() {
    HistoryRows x = withRowsAt(4, 1, 2, 3, 4);
    due("prune(0)", x.prune(0), 0);
    due("count(4)", x.count(4), 0);
    x.rule(1);
    due("prune(4)", x.prune(4), 0);
    dueCounts(x, 4, 0, 4, 0, 0, 0);
    due("archive(0, 0)", x.archive(0, 0), UNKNOWN);
    due("bring()", x.bring(), STATE);
    x.rule(0);
    due("prune(4)", x.prune(4), 4);
    due("prune(4) again", x.prune(4), 0);
    dueCounts(x, 4, 0, 1, 3, 1, 4);
  }

  private static void eightArchives() {
    HistoryRows x = withRowsAt(20, 1, 2, 3, 4, 5, 6, 7, 8, 9, 10);
    for (int i = 0; i < 8; i++) {
      due("archive(" + i + ", 0)", x.archive(i, 0), UNKNOWN);
      due("prune(" + (i + 1) + ")", x.prune(i + 1), 1);
      due("archive(" + i + ", 0)", x.archive(i, 0), i == 0 ? 0 : 1);
      due("archive(" + i + ", 1)", x.archive(i, 1), 1);
      due("count(4)", x.count(4), i + 1);
    }
    due("prune(9): the ninth", x.prune(9), ROOM);
    dueCounts(x, 20, 0, 3, 7, 8, 8);
    due("bring()", x.bring(), 1);
    due("prune(20): the eighth again", x.prune(20), 13);
    due("archive(7, 1)", x.archive(7, 1), 13);
    due("archive(7, 0): of 7, 8 and 9", x.archive(7, 0), 3);
    due("archive(0, 1)", x.archive(0, 1), 1);
    due("forget()", x.forget(), 9);
    for (int i = 0; i < 8; i++) { x.seal(); due("prune after forget", x.prune(21 + i), 1); }
    x.seal();
    due("prune(29): the ninth", x.prune(29), ROOM);
    due("archive(0, 1)", x.archive(0, 1), 1);
  }

  private static void archiveWithoutRows() {
    HistoryRows x = withRowsAt(3, 2);
    due("prune(1)", x.prune(1), 1);
    due("archive(0, 0)", x.archive(0, 0), 0);
    due("archive(0, 1)", x.archive(0, 1), 1);
    due("prune(3)", x.prune(3), 2);
    due("archive(1, 0)", x.archive(1, 0), 0);
    due("bring()", x.bring(), 0);
    due("pruned(2)", x.pruned(2), 0);
    due("forget()", x.forget(), 0);
    due("count(4)", x.count(4), 0);
    due("pruned(0)", x.pruned(0), 1);
    due("bring()", x.bring(), STATE);
  }

  private static void roomForNothing() {
    HistoryRows x = withHeights(12);
    for (int h = 1; h <= 8; h++) x.prune(h);
    due("prune(8): none would be", x.prune(8), 0);
    due("prune(9): one would be", x.prune(9), ROOM);
    x.rule(8);
    due("prune(9): 8 is spared", x.prune(9), 0);
    due("prune(10): 9 is not", x.prune(10), ROOM);
    due("pruned(9)", x.pruned(9), 0);
    due("count(4)", x.count(4), 8);
  }

  private static void newestComesBack() {
    HistoryRows x = withRowsAt(6, 1, 2, 3, 4, 5, 6);
    x.prune(3); x.prune(6);
    due("archive(0, 0)", x.archive(0, 0), 2);
    due("archive(1, 0)", x.archive(1, 0), 3);
    due("bring()", x.bring(), 3);
    dueCounts(x, 6, 0, 4, 2, 1, 3);
    due("archive(0, 0)", x.archive(0, 0), 2);
    due("archive(1, 0)", x.archive(1, 0), UNKNOWN);
    due("bring()", x.bring(), 2);
    dueCounts(x, 6, 0, 6, 0, 0, 0);
    due("bring()", x.bring(), STATE);
  }

  private static void rowsAreWhereTheyWere() {
    HistoryRows x = withRowsAt(6, 1, 2, 4, 6);
    x.rule(2);
    x.prune(6);
    x.rule(0);
    x.prune(6);
    sealOne(x, 70, 0, 7);
    x.write(80, 0, 8);
    due("bring()", x.bring(), 2);
    due("bring()", x.bring(), 1);
    int[] heights = {1, 2, 4, 6, 7};
    int[] calls = {1, 2, 4, 6, 70};
    for (int k = 0; k < 5; k++) {
      due("row(0, " + k + ", 0)", x.row(0, k, 0), heights[k]);
      due("row(0, " + k + ", 1)", x.row(0, k, 1), calls[k]);
    }
    due("row(0, 5, 0)", x.row(0, 5, 0), NONE);
    long[] held = {0, 1, 2, 2, 4, 4, 6, 7};
    for (int h = 0; h <= 7; h++) due("at(0, " + h + ")", x.at(0, h), held[h]);
    due("now(0): the block stays", x.now(0), 8);
    due("replayed(0, 7)", x.replayed(0, 7), 5);
    due("first(0, 1)", x.first(0, 1), 1);
  }

  private static void broughtHeights() {
    HistoryRows x = withHeights(10);
    x.rule(3);
    due("prune(6)", x.prune(6), 4);
    x.rule(0);
    due("prune(8)", x.prune(8), 4);
    due("archive(1, 1): 0, 3, 6, 7", x.archive(1, 1), 4);
    due("bring()", x.bring(), 0);
    for (int h = 0; h <= 10; h++) due("pruned(" + h + ")", x.pruned(h), h < 6 && h % 3 != 0 ? 1 : 0);
    due("count(4)", x.count(4), 1);
    due("prune(8) again", x.prune(8), 4);
    due("count(4)", x.count(4), 2);
  }

  private static void allForgotten() {
    HistoryRows x = withRowsAt(6, 1, 2, 3, 4, 5, 6);
    due("forget() of none", x.forget(), 0);
    x.prune(3); x.prune(6);
    due("forget()", x.forget(), 5);
    dueCounts(x, 6, 0, 1, 0, 0, 6);
    due("row(0, 0, 0)", x.row(0, 0, 0), 6);
    due("row(0, 1, 0)", x.row(0, 1, 0), NONE);
    due("bring()", x.bring(), STATE);
    due("forget() again", x.forget(), 0);
    sealOne(x, 7, 0, 7);
    due("prune(7)", x.prune(7), 1);
    due("archive(0, 0): numbers begin anew", x.archive(0, 0), 1);
    due("bring(): only what came after", x.bring(), 1);
    dueCounts(x, 7, 0, 2, 0, 0, 6);
    rowsAfterForgottenOnes();
  }

  private static void rowsAfterForgottenOnes() {
    HistoryRows x = withRowsAt(2, 1, 2);
    x.write(30, 4, 40); x.write(31, 5, 50);
    x.seal();
    x.write(32, 6, 60);
    x.prune(3);
    due("forget()", x.forget(), 1);
    int[] heights = {2, 3, 3}, calls = {2, 30, 31}, leaves = {0, 4, 5}, values = {2, 40, 50};
    for (int k = 0; k < 3; k++) {
      due("row(" + leaves[k] + ", 0, 0)", x.row(leaves[k], 0, 0), heights[k]);
      due("row(" + leaves[k] + ", 0, 1)", x.row(leaves[k], 0, 1), calls[k]);
      due("row(" + leaves[k] + ", 1, 0)", x.row(leaves[k], 1, 0), NONE);
      due("at(" + leaves[k] + ", 3)", x.at(leaves[k], 3), values[k]);
    }
    due("seal()", x.seal(), 4);
    due("blame(6, 4, 0)", x.blame(6, 4, 0), 32);
    due("replay(3, 4)", x.replay(3, 4), x.digest(4));
  }

  private static void forgottenHeightsStayPruned() {
    HistoryRows x = withRowsAt(6, 1, 3);
    x.prune(4);
    x.forget();
    for (int h = 0; h <= 6; h++) due("pruned(" + h + ")", x.pruned(h), h < 4 ? 1 : 0);
    due("at(0, 3)", x.at(0, 3), PRUNED - FAR);
    due("at(0, 4)", x.at(0, 4), 3);
    due("first(0, 0)", x.first(0, 0), NONE);
    due("first(0, 3)", x.first(0, 3), 4);
    x.prune(6);
    x.bring();
    for (int h = 0; h <= 6; h++) due("pruned(" + h + ") after another came back", x.pruned(h), h < 4 ? 1 : 0);
  }

  private static void blameFromThenOn() {
    HistoryRows x = withRowsAt(6, 2, 4);
    int[] rows = {NONE, NONE, 2, 2, 4, 4, 4};
    for (int h = 0; h <= 6; h++) {
      due("blame(0, " + h + ", 0)", x.blame(0, h, 0), rows[h]);
      due("blame(0, " + h + ", 1)", x.blame(0, h, 1), rows[h]);
    }
    x.prune(3);
    due("blame(0, 2, 1)", x.blame(0, 2, 1), PRUNED);
    due("blame(0, 3, 1): a row of a pruned height", x.blame(0, 3, 1), 2);
    x.forget();
    due("blame(0, 3, 1): it stays", x.blame(0, 3, 1), 2);
  }

  // ---- replays and proofs

  private static void replayToItself() {
    HistoryRows x = withRowsAt(5, 1, 3, 5);
    for (int h = 0; h <= 5; h++) {
      due("replay(" + h + ", " + h + ")", x.replay(h, h), x.digest(h));
      due("replayed(" + h + ", " + h + ")", x.replayed(h, h), 0);
    }
    due("replayed(4, 5)", x.replayed(4, 5), 1);
    due("replayed(5, 4)", x.replayed(5, 4), OUTSIDE);
    due("replay(5, 4)", x.replay(5, 4), OUTSIDE - FAR);
    x.prune(5);
    due("replayed(5, 5)", x.replayed(5, 5), 0);
    due("replayed(4, 4)", x.replayed(4, 4), PRUNED);
  }

  private static void replayOfRowsThereAre() {
    HistoryRows x = withRowsAt(8, 1, 2, 3, 4, 5, 6, 7, 8);
    x.rule(4);
    x.prune(8);
    due("replayed(0, 8): 4 and 8 are there", x.replayed(0, 8), 2);
    due("replay(0, 8)", x.replay(0, 8), x.digest(8));
    due("replayed(0, 4)", x.replayed(0, 4), 1);
    due("replay(0, 4)", x.replay(0, 4), x.digest(4));
    due("replayed(4, 8)", x.replayed(4, 8), 1);
    x.forget();
    due("replayed(0, 8) after forget", x.replayed(0, 8), 2);
    HistoryRows y = withRowsAt(8, 1, 2, 3, 4, 5, 6, 7, 8);
    y.prune(8);
    due("replayed(8, 8)", y.replayed(8, 8), 0);
    due("replay(8, 8)", y.replay(8, 8), y.digest(8));
    y.bring();
    due("replayed(0, 8) brought back", y.replayed(0, 8), 8);
  }

  private static void replayOfAll() {
    HistoryRows x = withRows(400);
    int[] state = new int[32];
    for (int i = 0; i < 400; i++) state[i % 32] = i + 1;
    due("replay(0, 13)", x.replay(0, 13), digestOf(state));
    due("replayed(0, 13)", x.replayed(0, 13), 400);
    due("replayed(12, 13)", x.replayed(12, 13), 16);
    due("replayed(0, 1)", x.replayed(0, 1), 32);
    for (int from = 0; from <= 13; from++) due("replay(" + from + ", 13)", x.replay(from, 13), digestOf(state));
    HistoryRows y = withRowsAt(200, 1, 200);
    due("replay(0, 200)", y.replay(0, 200), y.digest(200));
    due("replay(199, 200)", y.replay(199, 200), y.digest(200));
    due("replayed(199, 200)", y.replayed(199, 200), 1);
  }

  private static void proofNumbers() {
    int[] state = new int[32];
    HistoryRows x = new HistoryRows();
    for (int leaf = 0; leaf < 32; leaf++) { state[leaf] = leaf * leaf - 77; x.write(0, leaf, state[leaf]); }
    x.seal();
    for (int leaf = 0; leaf < 32; leaf++) {
      for (int i = 0; i < 5; i++) {
        long beside = (int) nodeWide(state, ((leaf >> i) ^ 1) << i, 1 << i);
        due("proof(" + leaf + ", 1, " + i + ")", x.proof(leaf, 1, i), beside);
      }
      due("proof(" + leaf + ", 1, 5)", x.proof(leaf, 1, 5), OUTSIDE - FAR);
      due("proof(" + leaf + ", 1, -1)", x.proof(leaf, 1, -1), OUTSIDE - FAR);
    }
  }

  private static void laidNumbers() {
    HistoryRows x = new HistoryRows();
    for (int i = 0; i < 5; i++) due("lay(" + i + ", ..)", x.lay(i, LOW + i), 0);
    for (int i = 0; i < 5; i++) due("lay(" + i + ", ..)", x.lay(i, HIGH - i), LOW + i);
    for (int i = 0; i < 5; i++) due("lay(" + i + ", ..)", x.lay(i, OUTSIDE), HIGH - i);
    due("lay(0, 0)", x.lay(0, 0), OUTSIDE);
    due("lay(5, 0)", x.lay(5, 0), OUTSIDE);
    due("lay(-1, 0)", x.lay(-1, 0), OUTSIDE);
    HistoryRows y = new HistoryRows();
    due("proves(0, 0, 0) by zeros", y.proves(0, 0, 0), 0);
    y.seal(); y.write(0, 0, 1); y.drop(); y.prune(1); y.bring(); y.lay(2, 9); y.back(0);
    due("lay(2, 0): no other call changes it", y.lay(2, 0), 9);
  }

  private static void sidesOfAProof() {
    int[] state = new int[32];
    HistoryRows x = new HistoryRows();
    for (int leaf = 0; leaf < 32; leaf++) { state[leaf] = HIGH - leaf * 1000003; x.write(0, leaf, state[leaf]); }
    x.seal();
    for (int leaf = 0; leaf < 32; leaf++) {
      layProof(x, state, leaf);
      due("proves(" + leaf + ", .., 1)", x.proves(leaf, state[leaf], 1), 1);
      due("proves(" + leaf + ", another, 1)", x.proves(leaf, state[leaf] ^ LOW, 1), 0);
      due("proves of the leaf beside " + leaf, x.proves(leaf ^ 1, state[leaf], 1), 0);
      due("proves of the leaf across " + leaf, x.proves(leaf ^ 16, state[leaf], 1), 0);
      due("proves(" + leaf + ", .., 0)", x.proves(leaf, state[leaf], 0), 0);
    }
    for (int i = 0; i < 5; i++) {
      layProof(x, state, 11);
      x.lay(i, x.lay(i, 0) ^ 1);
      due("proves(11, .., 1) with number " + i + " changed", x.proves(11, state[11], 1), 0);
    }
  }

  private static void provesPruned() {
    HistoryRows x = withRowsAt(4, 1, 2, 3, 4);
    int[] state = new int[32];
    layProof(x, state, 0);
    for (int round = 0; round < 3; round++) {
      for (int h = 0; h <= 4; h++) {
        due("proves(0, " + h + ", " + h + ")", x.proves(0, h, h), 1);
        due("proves(0, " + (h + 1) + ", " + h + ")", x.proves(0, h + 1, h), 0);
      }
      if (round == 0) due("prune(4)", x.prune(4), 4);
      if (round == 1) due("forget()", x.forget(), 3);
    }
    due("proves(0, 5, 5)", x.proves(0, 5, 5), UNKNOWN);
  }

  // ---- steps back

  private static void backToTopAndBottom() {
    HistoryRows x = withRowsAt(200, 1, 100, 200);
    due("back(200)", x.back(200), 0);
    due("count(0)", x.count(0), 200);
    due("back(199)", x.back(199), 1);
    due("count(0)", x.count(0), 199);
    due("seal()", x.seal(), 200);
    due("at(0, 200)", x.at(0, 200), 100);
    due("back(0)", x.back(0), 2);
    dueCounts(x, 0, 0, 0, 0, 0, 0);
    due("digest(0)", x.digest(0), -1692335658L);
    due("back(0)", x.back(0), 0);
    due("back(1)", x.back(1), UNKNOWN);
    due("seal()", x.seal(), 1);
    due("at(0, 1)", x.at(0, 1), 0);
  }

  private static void aboveNeverWas() {
    HistoryRows x = withRowsAt(8, 2, 4, 6, 8);
    x.rule(4);
    due("prune(8)", x.prune(8), 6);
    due("forget()", x.forget(), 2);
    due("back(5)", x.back(5), PRUNED);
    due("back(4)", x.back(4), 1);
    dueCounts(x, 4, 0, 1, 0, 0, 3);
    due("digest(5)", x.digest(5), UNKNOWN - FAR);
    due("pruned(5)", x.pruned(5), UNKNOWN);
    due("first(0, 8)", x.first(0, 8), NONE);
    due("row(0, 1, 0)", x.row(0, 1, 0), NONE);
    due("seal()", x.seal(), 5);
    due("pruned(5): a new one", x.pruned(5), 0);
    due("at(0, 5)", x.at(0, 5), 4);
    due("digest(5)", x.digest(5), x.digest(4));
    sealOne(x, 3, 0, 60);
    due("blame(0, 6, 0)", x.blame(0, 6, 0), 3);
    due("rule(0): it stays", x.rule(0), 4);
    due("back(3)", x.back(3), PRUNED);
  }

  private static void backWithoutArchives() {
    HistoryRows x = withRowsAt(4, 1, 2, 3, 4);
    x.prune(1);
    due("back(4) with an archive without rows", x.back(4), STATE);
    due("back(0): both fit", x.back(0), STATE);
    due("bring()", x.bring(), 0);
    due("back(3)", x.back(3), 1);
    x.prune(3);
    due("back(3)", x.back(3), STATE);
    due("forget()", x.forget(), 2);
    due("back(2)", x.back(2), PRUNED);
    due("back(3)", x.back(3), 0);
    due("digest(4)", x.digest(4), UNKNOWN - FAR);
  }

  private static void backEmptiesTheBlock() {
    HistoryRows x = withRowsAt(2, 1, 2);
    for (int n = 0; n < 60; n++) x.write(999, n % 32, 50 + n);
    due("back(2) to HEIGHT itself", x.back(2), 0);
    due("count(1)", x.count(1), 0);
    due("now(0)", x.now(0), 2);
    due("now(31)", x.now(31), 0);
    due("drop()", x.drop(), 0);
    x.write(999, 0, 50);
    due("back(1)", x.back(1), 1);
    due("now(0)", x.now(0), 1);
    due("write(0, 0, 1)", x.write(0, 0, 1), 1);
    due("seal()", x.seal(), 2);
    due("count(2): 1 over 1", x.count(2), 1);
  }

  // ---- answers

  private static void dropAnswers() {
    HistoryRows x = new HistoryRows();
    due("drop() of none", x.drop(), 0);
    x.write(0, 0, 1);
    due("drop() of one", x.drop(), 1);
    for (int n = 0; n < 61; n++) x.write(0, 0, n);
    due("drop() of 60: the refused one is none", x.drop(), 60);
    due("drop() again", x.drop(), 0);
    due("now(0)", x.now(0), 0);
  }

  private static void nowSeesTheBlock() {
    HistoryRows x = withRowsAt(1, 1);
    due("now(0)", x.now(0), 1);
    x.write(0, 0, LOW);
    due("now(0)", x.now(0), LOW);
    x.write(0, 0, HIGH);
    due("now(0): the last write", x.now(0), HIGH);
    due("now(1)", x.now(1), 0);
    due("at(0, 1)", x.at(0, 1), 1);
    x.prune(1); x.bring();
    due("now(0)", x.now(0), HIGH);
    x.seal();
    due("now(0) when sealed", x.now(0), HIGH);
  }

  private static void blameOfZero() {
    HistoryRows x = new HistoryRows();
    sealOne(x, 7, 1, 0);
    due("blame(1, 1, 0): 0 over 0", x.blame(1, 1, 0), NONE);
    sealOne(x, 8, 1, 5);
    sealOne(x, 9, 1, 0);
    due("blame(1, 1, 1)", x.blame(1, 1, 1), NONE);
    due("blame(1, 3, 0): 0, but not from the beginning", x.blame(1, 3, 0), 9);
    due("blame(1, 3, 1)", x.blame(1, 3, 1), 3);
    due("blame(2, 3, 0)", x.blame(2, 3, 0), NONE);
  }

  private static void firstOfKept() {
    HistoryRows x = withRowsAt(6, 1, 3, 6);
    due("first(0, 0)", x.first(0, 0), 0);
    due("first(0, 1)", x.first(0, 1), 1);
    due("first(0, 6): HEIGHT", x.first(0, 6), 6);
    due("first(0, 2)", x.first(0, 2), NONE);
    x.prune(2);
    due("first(0, 0): only 0 held it", x.first(0, 0), NONE);
    due("first(0, 1): 2 is kept", x.first(0, 1), 2);
    due("first(1, 0)", x.first(1, 0), 2);
    x.prune(3);
    due("first(0, 1): all are pruned", x.first(0, 1), NONE);
    x.write(0, 0, 99);
    due("first(0, 99): not sealed", x.first(0, 99), NONE);
    x.seal();
    due("first(0, 99)", x.first(0, 99), 7);
    x.bring();
    due("first(0, 1) when one came back", x.first(0, 1), 2);
    x.bring();
    due("first(0, 1) when both came back", x.first(0, 1), 1);
  }

  private static void noneAndAllDiffer() {
    HistoryRows x = new HistoryRows();
    due("differs(0, 0)", x.differs(0, 0), 0);
    x.seal();
    due("differs(0, 1)", x.differs(0, 1), 0);
    for (int leaf = 0; leaf < 32; leaf++) x.write(0, leaf, LOW);
    x.seal();
    due("differs(1, 2)", x.differs(1, 2), 32);
    due("differs(2, 0)", x.differs(2, 0), 32);
    due("differs(2, 2)", x.differs(2, 2), 0);
    sealOne(x, 0, 31, HIGH);
    due("differs(2, 3)", x.differs(2, 3), 1);
    for (int leaf = 0; leaf < 32; leaf++) x.write(0, leaf, 0);
    x.seal();
    due("differs(0, 4): there and back", x.differs(0, 4), 0);
  }

  private static void firstAndLastDifference() {
    HistoryRows x = new HistoryRows();
    due("difference(0, 0, 0)", x.difference(0, 0, 0), NONE);
    x.write(0, 31, 1); x.write(0, 0, 1);
    x.seal();
    due("difference(0, 1, 0)", x.difference(0, 1, 0), 0);
    due("difference(0, 1, 1)", x.difference(0, 1, 1), 31);
    due("difference(0, 1, 2)", x.difference(0, 1, 2), NONE);
    due("difference(0, 1, -1)", x.difference(0, 1, -1), NONE);
    due("difference(0, 1, low)", x.difference(0, 1, LOW), NONE);
    due("difference(0, 1, high)", x.difference(0, 1, HIGH), NONE);
    for (int leaf = 0; leaf < 32; leaf++) x.write(0, leaf, 2);
    x.seal();
    for (int k = 0; k < 32; k++) due("difference(2, 0, " + k + ")", x.difference(2, 0, k), k);
    due("difference(2, 0, 32)", x.difference(2, 0, 32), NONE);
  }

  private static void firstAndLastRow() {
    HistoryRows x = new HistoryRows();
    due("row(0, 0, 0) of none", x.row(0, 0, 0), NONE);
    for (int h = 1; h <= 200; h++) sealOne(x, h, 0, h);
    due("row(0, 0, 0)", x.row(0, 0, 0), 1);
    due("row(0, 199, 0)", x.row(0, 199, 0), 200);
    due("row(0, 199, 1)", x.row(0, 199, 1), 200);
    due("row(0, 200, 0)", x.row(0, 200, 0), NONE);
    due("row(0, -1, 0)", x.row(0, -1, 0), NONE);
    due("row(1, 0, 0)", x.row(1, 0, 0), NONE);
    x.prune(200);
    due("row(0, 0, 0)", x.row(0, 0, 0), 200);
    due("row(0, 1, 0): archived ones are not there", x.row(0, 1, 0), NONE);
    x.bring();
    due("row(0, 0, 0)", x.row(0, 0, 0), 1);
  }

  private static void emptyAndFullCounts() {
    dueCounts(new HistoryRows(), 0, 0, 0, 0, 0, 0);
    dueCounts(withRows(400), 13, 0, 400, 0, 0, 0);
    HistoryRows x = withHeights(200);
    for (int n = 0; n < 60; n++) x.write(0, 0, n);
    for (int h = 25; h <= 200; h += 25) x.prune(h);
    dueCounts(x, 200, 60, 0, 0, 8, 200);
    due("count(6)", x.count(6), OUTSIDE);
    due("count(-1)", x.count(-1), OUTSIDE);
    x.forget();
    dueCounts(x, 200, 60, 0, 0, 0, 200);
    HistoryRows y = withRows(400);
    y.prune(13);
    dueCounts(y, 13, 0, 32, 368, 1, 13);
    y.bring();
    dueCounts(y, 13, 0, 400, 0, 0, 0);
  }

  private static void clearedIsNew() {
    HistoryRows x = new HistoryRows();
    due("clear() of a new object", x.clear(), 0);
    for (int h = 1; h <= 20; h++) sealOne(x, 900, h, h);
    for (int h = 2; h <= 16; h += 2) x.prune(h);
    x.rule(100);
    for (int i = 0; i < 5; i++) x.lay(i, 77);
    for (int n = 0; n < 60; n++) x.write(999, n % 32, n + 1000);
    due("clear()", x.clear(), 20);
    dueCounts(x, 0, 0, 0, 0, 0, 0);
    for (int leaf = 0; leaf < 32; leaf++) {
      due("now(" + leaf + ")", x.now(leaf), 0);
      due("at(" + leaf + ", 0)", x.at(leaf, 0), 0);
      due("row(" + leaf + ", 0, 0)", x.row(leaf, 0, 0), NONE);
    }
    for (int i = 0; i < 5; i++) due("lay(" + i + ", 0)", x.lay(i, 0), 0);
    due("digest(0)", x.digest(0), -1692335658L);
    due("digest(1)", x.digest(1), UNKNOWN - FAR);
    due("bring()", x.bring(), STATE);
    due("archive(0, 0)", x.archive(0, 0), UNKNOWN);
    due("write(0, 1, 0)", x.write(0, 1, 0), 1);
    due("seal()", x.seal(), 1);
    due("count(2)", x.count(2), 0);
    due("prune(1): no rule spares 0", x.prune(1), 1);
    due("rule(0)", x.rule(0), 0);
    due("clear()", x.clear(), 1);
  }
}
