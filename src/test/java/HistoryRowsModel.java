import java.util.ArrayList;
import java.util.List;
import java.util.Random;

// Long runs of mixed calls, answered by HistoryRows and by a model that keeps every state whole
// and follows the document's words without sparing anything. The seeds are fixed.
public final class HistoryRowsModel {
  private static final int NONE = -1, UNKNOWN = -101, OUTSIDE = -102, STATE = -103, PRUNED = -104, ROOM = -105;
  private static final long FAR = 4000000000L;
  private static final int CALLS = 512;
  /** Kinds of runs beside the mixed ones 0 to 11: to 400 rows, and to 8 archives. */
  private static final int FLOOD = 12, STORE = 13, KINDS = 14;

  private record Row(int height, int leaf, int value, int call) {}
  private record Write(int call, int leaf, int value) {}
  private record Archive(List<Row> rows, List<Integer> heights) {}

  private static final class Model {
    List<int[]> states = new ArrayList<>();
    List<Boolean> gone = new ArrayList<>();
    List<Write> block = new ArrayList<>();
    List<Row> rows = new ArrayList<>();
    List<Archive> archives = new ArrayList<>();
    int[] laid = new int[5];
    int step = 0;

    Model() { states.add(new int[32]); gone.add(false); }

    int top() { return states.size() - 1; }
    boolean noLeaf(int leaf) { return leaf < 0 || leaf > 31; }
    boolean noHeight(int height) { return height < 0 || height > top(); }

    static int join(int l, int r) { int x = 31 * l + r; return (x ^ (x >>> 15)) * 0x2C1B3C6D; }

    static List<int[]> levels(int[] state) {
      List<int[]> levels = new ArrayList<>();
      int[] level = new int[32];
      for (int i = 0; i < 32; i++) level[i] = state[i] * 31 + i;
      levels.add(level);
      while (level.length > 1) {
        int[] next = new int[level.length / 2];
        for (int i = 0; i < next.length; i++) next[i] = join(level[2 * i], level[2 * i + 1]);
        levels.add(next);
        level = next;
      }
      return levels;
    }

    static int root(int[] state) { return levels(state).get(5)[0]; }

    int[] behind() {
      int[] state = states.get(top()).clone();
      for (Write w : block) state[w.leaf()] = w.value();
      return state;
    }

    long write(int call, int leaf, int v) {
      if (noLeaf(leaf)) return UNKNOWN;
      if (call < 0 || call > 999) return OUTSIDE;
      if (!block.isEmpty() && call < block.get(block.size() - 1).call()) return STATE;
      if (block.size() == 60) return ROOM;
      block.add(new Write(call, leaf, v));
      return block.size();
    }

    long seal() {
      int[] ahead = states.get(top()), behind = behind();
      List<Row> made = new ArrayList<>();
      for (int leaf = 0; leaf < 32; leaf++) {
        if (ahead[leaf] == behind[leaf]) continue;
        int call = -1;
        for (Write w : block) if (w.leaf() == leaf) call = w.call();
        made.add(new Row(top() + 1, leaf, behind[leaf], call));
      }
      if (top() == 200 || rows.size() + archived() + made.size() > 400) return ROOM;
      states.add(behind); gone.add(false); rows.addAll(made); block.clear();
      return top();
    }

    int archived() { int n = 0; for (Archive a : archives) n += a.rows().size(); return n; }

    long drop() { int n = block.size(); block.clear(); return n; }

    long at(int leaf, int height) {
      if (noLeaf(leaf) || noHeight(height)) return UNKNOWN - FAR;
      return gone.get(height) ? PRUNED - FAR : states.get(height)[leaf];
    }

    long now(int leaf) { return noLeaf(leaf) ? UNKNOWN - FAR : behind()[leaf]; }

    long digest(int height) { return noHeight(height) ? UNKNOWN - FAR : root(states.get(height)); }

    long blame(int leaf, int height, int what) {
      if (noLeaf(leaf) || noHeight(height)) return UNKNOWN;
      if (what != 0 && what != 1) return OUTSIDE;
      if (gone.get(height)) return PRUNED;
      Row best = null;
      for (Row r : rows) {
        if (r.leaf() == leaf && r.height() <= height && (best == null || r.height() > best.height())) best = r;
      }
      return best == null ? NONE : what == 0 ? best.call() : best.height();
    }

    long first(int leaf, int v) {
      if (noLeaf(leaf)) return UNKNOWN;
      for (int h = 0; h <= top(); h++) if (!gone.get(h) && states.get(h)[leaf] == v) return h;
      return NONE;
    }

    List<Integer> unlike(int a, int b) {
      List<Integer> found = new ArrayList<>();
      for (int leaf = 0; leaf < 32; leaf++) if (states.get(a)[leaf] != states.get(b)[leaf]) found.add(leaf);
      return found;
    }

    long differs(int a, int b) {
      if (noHeight(a) || noHeight(b)) return UNKNOWN;
      return gone.get(a) || gone.get(b) ? PRUNED : unlike(a, b).size();
    }

    long difference(int a, int b, int k) {
      if (noHeight(a) || noHeight(b)) return UNKNOWN;
      if (gone.get(a) || gone.get(b)) return PRUNED;
      List<Integer> found = unlike(a, b);
      return k < 0 || k >= found.size() ? NONE : found.get(k);
    }

    long rule(int to) {
      if (to < 0 || to > 100) return OUTSIDE;
      int was = step; step = to; return was;
    }

    boolean needed(Row row) {
      int next = Integer.MAX_VALUE;
      for (Row r : rows) if (r.leaf() == row.leaf() && r.height() > row.height()) next = Math.min(next, r.height());
      for (int h = row.height(); h <= top() && h < next; h++) if (!gone.get(h)) return true;
      return false;
    }

    long prune(int before) {
      if (noHeight(before)) return UNKNOWN;
      List<Integer> going = new ArrayList<>();
      for (int h = 0; h < before; h++) if (!gone.get(h) && !(step > 0 && h % step == 0)) going.add(h);
      if (going.isEmpty()) return 0;
      if (archives.size() == 8) return ROOM;
      for (int h : going) gone.set(h, true);
      List<Row> out = new ArrayList<>();
      for (Row r : rows) if (!needed(r)) out.add(r);
      rows.removeAll(out);
      archives.add(new Archive(out, going));
      return going.size();
    }

    long pruned(int height) { return noHeight(height) ? UNKNOWN : gone.get(height) ? 1 : 0; }

    long bring() {
      if (archives.isEmpty()) return STATE;
      Archive a = archives.remove(archives.size() - 1);
      rows.addAll(a.rows());
      for (int h : a.heights()) gone.set(h, false);
      return a.rows().size();
    }

    long forget() { int n = archived(); archives.clear(); return n; }

    long archive(int i, int what) {
      if (i < 0 || i >= archives.size()) return UNKNOWN;
      if (what != 0 && what != 1) return OUTSIDE;
      return what == 0 ? archives.get(i).rows().size() : archives.get(i).heights().size();
    }

    long refusesReplay(int from, int to) {
      if (noHeight(from) || noHeight(to)) return UNKNOWN;
      if (to < from) return OUTSIDE;
      return gone.get(from) || gone.get(to) ? PRUNED : 0;
    }

    long replay(int from, int to) {
      long no = refusesReplay(from, to);
      return no != 0 ? no - FAR : root(states.get(to));
    }

    long replayed(int from, int to) {
      long no = refusesReplay(from, to);
      if (no != 0) return no;
      int n = 0;
      for (Row r : rows) if (r.height() > from && r.height() <= to) n++;
      return n;
    }

    long proof(int leaf, int height, int i) {
      if (noLeaf(leaf) || noHeight(height)) return UNKNOWN - FAR;
      if (i < 0 || i > 4) return OUTSIDE - FAR;
      if (gone.get(height)) return PRUNED - FAR;
      return levels(states.get(height)).get(i)[(leaf >> i) ^ 1];
    }

    long lay(int i, int v) {
      if (i < 0 || i > 4) return OUTSIDE;
      int was = laid[i]; laid[i] = v; return was;
    }

    long proves(int leaf, int v, int height) {
      if (noLeaf(leaf) || noHeight(height)) return UNKNOWN;
      int d = v * 31 + leaf;
      for (int i = 0; i < 5; i++) d = (leaf >> i) % 2 == 0 ? join(d, laid[i]) : join(laid[i], d);
      return d == root(states.get(height)) ? 1 : 0;
    }

    long back(int height) {
      if (noHeight(height)) return UNKNOWN;
      if (!archives.isEmpty()) return STATE;
      if (gone.get(height)) return PRUNED;
      int had = rows.size();
      rows.removeIf(r -> r.height() > height);
      while (top() > height) { gone.remove(top()); states.remove(top()); }
      block.clear();
      return had - rows.size();
    }

    long row(int leaf, int k, int what) {
      if (noLeaf(leaf)) return UNKNOWN;
      if (what != 0 && what != 1) return OUTSIDE;
      List<Row> found = new ArrayList<>();
      for (Row r : rows) if (r.leaf() == leaf) found.add(r);
      found.sort((p, q) -> Integer.compare(p.height(), q.height()));
      if (k < 0 || k >= found.size()) return NONE;
      return what == 0 ? found.get(k).height() : found.get(k).call();
    }

    long count(int what) {
      int n = 0;
      for (boolean g : gone) if (g) n++;
      int[] counts = {top(), block.size(), rows.size(), archived(), archives.size(), n};
      return what < 0 || what > 5 ? OUTSIDE : counts[what];
    }

    long clear() {
      int was = top();
      Model fresh = new Model();
      states = fresh.states; gone = fresh.gone; block = fresh.block; rows = fresh.rows;
      archives = fresh.archives; laid = fresh.laid; step = 0;
      return was;
    }
  }

  private static final int[] noRoom = new int[4];

  private final Random random;
  private final int kind;
  private final HistoryRows x = new HistoryRows();
  private final Model m = new Model();
  private String call = "";

  private HistoryRowsModel(long seed, int kind) { random = new Random(seed); this.kind = kind; }

  private static final int[] ODD = {-1, Integer.MIN_VALUE, Integer.MAX_VALUE, 32, 60, 201, 1000, -105, 65536};

  private int upTo(int bound) { return random.nextInt(bound); }
  private int odd(int plain) { return upTo(kind == FLOOD ? 200 : 25) == 0 ? ODD[upTo(ODD.length)] : plain; }
  private int leaf() { return odd(kind == FLOOD ? m.block.size() % 32 : upTo(kind % 2 == 0 ? 32 : 4)); }
  private int height() { return odd(upTo(m.top() + (upTo(8) == 0 ? 2 : 1))); }
  private int value() { return kind == FLOOD || upTo(6) == 0 ? random.nextInt() : upTo(4); }
  private int call() {
    if (m.block.isEmpty()) return odd(upTo(50));
    int last = m.block.get(m.block.size() - 1).call();
    return odd(Math.min(999, last + upTo(9) - (kind == FLOOD ? 0 : 1)));
  }

  private int what() { return odd(upTo(2)); }
  private int near(int n) { return Math.max(0, n - upTo(5)); }

  /** Makes one call on both: the answers, HistoryRows' first. */
  private long[] one(int which) {
    int a, b, c;
    switch (which) {
      case 0: a = call(); b = leaf(); c = value(); call = "write(" + a + ", " + b + ", " + c + ")"; return two(x.write(a, b, c), m.write(a, b, c));
      case 1: call = "seal()"; return two(x.seal(), m.seal());
      case 2: call = "drop()"; return two(x.drop(), m.drop());
      case 3: a = leaf(); b = height(); call = "at(" + a + ", " + b + ")"; return two(x.at(a, b), m.at(a, b));
      case 4: a = leaf(); call = "now(" + a + ")"; return two(x.now(a), m.now(a));
      case 5: a = height(); call = "digest(" + a + ")"; return two(x.digest(a), m.digest(a));
      case 6: a = leaf(); b = height(); c = what(); call = "blame(" + a + ", " + b + ", " + c + ")"; return two(x.blame(a, b, c), m.blame(a, b, c));
      case 7: a = leaf(); b = value(); call = "first(" + a + ", " + b + ")"; return two(x.first(a, b), m.first(a, b));
      case 8: a = height(); b = height(); call = "differs(" + a + ", " + b + ")"; return two(x.differs(a, b), m.differs(a, b));
      case 9: a = height(); b = height(); c = odd(upTo(6)); call = "difference(" + a + ", " + b + ", " + c + ")"; return two(x.difference(a, b, c), m.difference(a, b, c));
      case 10: a = odd(upTo(6)); call = "rule(" + a + ")"; return two(x.rule(a), m.rule(a));
      case 11: a = odd(near(m.top())); call = "prune(" + a + ")"; return two(x.prune(a), m.prune(a));
      case 12: a = height(); call = "pruned(" + a + ")"; return two(x.pruned(a), m.pruned(a));
      case 13: call = "bring()"; return two(x.bring(), m.bring());
      case 14: call = "forget()"; return two(x.forget(), m.forget());
      case 15: a = odd(upTo(9)); b = what(); call = "archive(" + a + ", " + b + ")"; return two(x.archive(a, b), m.archive(a, b));
      case 16: a = height(); b = height(); call = "replay(" + a + ", " + b + ")"; return two(x.replay(a, b), m.replay(a, b));
      case 17: a = height(); b = height(); call = "replayed(" + a + ", " + b + ")"; return two(x.replayed(a, b), m.replayed(a, b));
      case 18: a = leaf(); b = height(); c = odd(upTo(6)); call = "proof(" + a + ", " + b + ", " + c + ")"; return two(x.proof(a, b, c), m.proof(a, b, c));
      case 19: a = odd(upTo(6)); b = value(); call = "lay(" + a + ", " + b + ")"; return two(x.lay(a, b), m.lay(a, b));
      case 20: a = leaf(); b = value(); c = height(); call = "proves(" + a + ", " + b + ", " + c + ")"; return two(x.proves(a, b, c), m.proves(a, b, c));
      case 21: a = odd(near(m.top())); call = "back(" + a + ")"; return two(x.back(a), m.back(a));
      case 22: a = leaf(); b = odd(upTo(6)); c = what(); call = "row(" + a + ", " + b + ", " + c + ")"; return two(x.row(a, b, c), m.row(a, b, c));
      case 23: a = odd(upTo(7)); call = "count(" + a + ")"; return two(x.count(a), m.count(a));
      default: call = "clear()"; return two(x.clear(), m.clear());
    }
  }

  private static long[] two(long got, long want) { return new long[] {got, want}; }

  /** Lays the proof of a leaf at a height, so that proves has something to say yes to. */
  private long[] layProof(int leaf, int height, int i) {
    if (m.gone.get(height)) return one(12);
    int v = (int) m.proof(leaf, height, i);
    call = "lay(" + i + ", " + v + ")";
    return two(x.lay(i, v), m.lay(i, v));
  }

  private long[] proveLaid(int leaf, int height) {
    int v = m.states.get(height)[leaf];
    call = "proves(" + leaf + ", " + v + ", " + height + ")";
    return two(x.proves(leaf, v, height), m.proves(leaf, v, height));
  }

  /** Which call comes next: kinds of runs grow high, grow many rows, or prune much. */
  private int next() {
    int dice = upTo(100);
    if (kind == FLOOD && dice < 97) return m.block.size() >= 31 && dice < 90 ? 1 : 0;
    if (kind == STORE && dice < 60) return dice < 30 ? 1 : dice < 58 ? 11 : 13;
    int grow = kind % 3 == 0 ? 75 : kind % 3 == 1 ? 85 : 45;
    int seals = kind % 4 == 0 ? 45 : kind % 4 == 1 ? 4 : 15;
    if (dice < seals) return 1;
    if (dice < grow) return 0;
    int which = 2 + upTo(23);
    boolean rare = kind >= FLOOD && which == 10 || which == 24 || which == 21 || which == 2 || which == 14;
    return rare && upTo(4) != 0 ? 3 : which;
  }

  /** Counts the ROOM answers of each kind, so that runs that miss these edges are noticed. */
  private void noteRoom(long due) {
    if (due != ROOM) return;
    if (call.startsWith("write(")) noRoom[0]++;
    if (call.equals("seal()")) noRoom[m.top() == 200 ? 1 : 2]++;
    if (call.startsWith("prune(")) noRoom[3]++;
  }

  private boolean run(long seed) {
    StringBuilder told = new StringBuilder();
    int proofLeaf = 0, proofHeight = 0, proofStep = 6;
    for (int n = 0; n < CALLS; n++) {
      long[] answers;
      if (proofStep > 5 && upTo(40) == 0) { proofLeaf = upTo(32); proofHeight = upTo(m.top() + 1); proofStep = 0; }
      if (proofStep <= 5 && proofHeight <= m.top()) {
        answers = proofStep == 5 ? proveLaid(proofLeaf, proofHeight) : layProof(proofLeaf, proofHeight, proofStep);
        proofStep++;
      } else {
        proofStep = 6;
        answers = one(next());
      }
      noteRoom(answers[1]);
      told.append("  ").append(call).append(" = ").append(answers[0]).append('\n');
      if (answers[0] != answers[1]) {
        System.out.println("seed " + seed + ", call " + n + ": due is " + answers[1] + " at the end of");
        System.out.print(told);
        return false;
      }
    }
    return true;
  }

  public static void main(String[] args) {
    int runs = args.length > 0 ? Integer.parseInt(args[0]) : 2800;
    int wrong = 0;
    for (int seed = 0; seed < runs && wrong < 3; seed++) {
      if (!new HistoryRowsModel(seed, seed % KINDS).run(seed)) wrong++;
    }
    System.out.println(runs + " runs, " + wrong + " wrong; no room for " + noRoom[0] + " writes, "
        + noRoom[1] + " seals at height 200, " + noRoom[2] + " seals of rows, " + noRoom[3] + " prunes");
    boolean reached = true;
    for (int n : noRoom) reached &= n > 0;
    if (!reached) System.out.println("the runs did not reach every edge");
    if (wrong != 0 || !reached) System.exit(1);
  }
}
