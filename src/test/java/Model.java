import java.util.ArrayList;
import java.util.Arrays;
import java.util.Collections;
import java.util.LinkedList;
import java.util.List;

/** The document told a second time, with the Java library and everything reckoned anew when anything has changed. */
final class Model {
  static final int NONE = -1;

  private final List<int[]> trace = new ArrayList<>();
  private final boolean[] laws = new boolean[3];
  private final int[] prices = {10, 2};

  /** What laying a trace on one shelf leaves. */
  static final class Laid {
    final List<Integer> costs = new ArrayList<>();
    final List<Integer> rooms = new ArrayList<>();
    final List<Integer> sizes = new ArrayList<>();
    final List<Integer> answers = new ArrayList<>();
    List<Integer> keys;
    int roomNow;
  }

  int call(int kind, int key) {
    if (kind < 0 || kind > 7 || key < 0 || key > 63 || trace.size() == 200) return NONE;
    forget();
    trace.add(new int[] {kind, key});
    return trace.size() - 1;
  }

  int draw(int seed, int n, int keys, int mask) {
    if (n < 0 || n > 100 || keys < 1 || keys > 64 || mask < 0 || mask > 255 || trace.size() + n > 200) return NONE;
    forget();
    int r = seed;
    for (int i = 0; i < n; i++) {
      r = r * 1103515245 + 12345;
      int kind = (r >>> 16) % 8;
      r = r * 1103515245 + 12345;
      trace.add(new int[] {(mask & (1 << kind)) != 0 ? kind : 0, (r >>> 16) % keys});
    }
    return trace.size();
  }

  int drop(int n) {
    if (n < 0 || n > trace.size()) return NONE;
    forget();
    for (int i = 0; i < n; i++) trace.remove(trace.size() - 1);
    return trace.size();
  }

  boolean law(int law, boolean is) {
    if (law < 1 || law > 2) return false;
    forget();
    laws[law] = is;
    return true;
  }

  int set(int what, int v) {
    if (what < 0 || what > 1 || v < 0 || v > 1000) return NONE;
    forget();
    int was = prices[what];
    prices[what] = v;
    return was;
  }

  private boolean none(int i) {
    return i < 0 || i >= trace.size();
  }

  int told(int i, int what) {
    if (none(i) || what < 0 || what > 2) return NONE;
    return what < 2 ? trace.get(i)[what] : laid(0).sizes.get(i);
  }

  int answer(int i) {
    return none(i) ? Due.THROWN : laid(0).answers.get(i);
  }

  int cost(int shelf, int i) {
    return shelf < 0 || shelf > 5 || none(i) ? NONE : laid(shelf).costs.get(i);
  }

  int key(int shelf, int i) {
    if (shelf < 0 || shelf > 5) return NONE;
    List<Integer> keys = laid(shelf).keys;
    return i < 0 || i >= keys.size() ? NONE : keys.get(i);
  }

  int sum(int shelf, int what) {
    if (shelf < 0 || shelf > 5) return NONE;
    Laid on = laid(shelf);
    boolean empty = trace.isEmpty();
    switch (what) {
      case 0: return since(shelf, 0);
      case 1: return empty ? 0 : Collections.max(on.costs);
      case 2: return empty ? NONE : on.costs.indexOf(Collections.max(on.costs));
      case 3: return empty ? 0 : Collections.max(on.rooms);
      case 4: return offered().contains(shelf) ? 1 : 0;
      case 5: return on.roomNow;
      default: return NONE;
    }
  }

  private int since(int shelf, int from) {
    return laid(shelf).costs.stream().skip(from).mapToInt(Integer::intValue).sum();
  }

  private List<Integer> offered() {
    List<Integer> all = new ArrayList<>(List.of(0, 1, 2, 3, 4, 5));
    if (laws[1]) all.retainAll(List.of(1, 3, 5));
    if (laws[2]) all.retainAll(List.of(0));
    if (trace.stream().anyMatch(c -> c[0] == 6)) all.retainAll(List.of(0));
    return all;
  }

  int best(int worst, int room) {
    return offered().stream()
        .filter(s -> laid(s).costs.stream().allMatch(c -> c <= worst) && sum(s, 3) <= room)
        .min((a, b) -> Integer.compare(since(a, 0), since(b, 0))).orElse(NONE);
  }

  int drift(int shelf, int n, int what) {
    if (shelf < 0 || shelf > 5 || n < 1 || n > trace.size() || what < 0 || what > 1 || offered().isEmpty()) return NONE;
    int from = trace.size() - n;
    int which = offered().stream().min((a, b) -> Integer.compare(since(a, from), since(b, from))).orElse(NONE);
    if (what == 0) return which;
    int had = since(shelf, from);
    return had == 0 ? 0 : (int) ((had - since(which, from)) * 100.0 / had);
  }

  int stages() {
    if (offered().isEmpty()) return NONE;
    return plan()[0];
  }

  int stage(int i) {
    return none(i) || offered().isEmpty() ? NONE : plan()[2 + i];
  }

  int count(int what) {
    switch (what) {
      case 0: return trace.size();
      case 1: return prices[0];
      case 2: return prices[1];
      case 3: return offered().isEmpty() ? 0 : plan()[1];
      case 4: return (laws[1] ? 2 : 0) + (laws[2] ? 4 : 0) + (trace.stream().anyMatch(c -> c[0] == 6) ? 8 : 0);
      default: return NONE;
    }
  }

  private int[] plan() {
    if (keptPlan == null) keptPlan = trace.isEmpty() ? new int[2] : planned();
    return keptPlan;
  }

  /** Sum, moves and the shelf of each call; forward, the best way to each shelf being kept whole. */
  private int[] planned() {
    int n = trace.size();
    List<int[]> ways = new ArrayList<>();
    List<Integer> sizes = laid(0).sizes;
    for (int i = 0; i < n; i++) {
      List<int[]> longer = new ArrayList<>();
      for (int s : offered()) {
        List<int[]> to = new ArrayList<>();
        if (i == 0) to.add(longerBy(new int[2], s, laid(s).costs.get(0), false));
        for (int[] way : ways) {
          boolean moved = way[way.length - 1] != s;
          int price = moved ? prices[0] + prices[1] * sizes.get(i - 1) : 0;
          to.add(longerBy(way, s, laid(s).costs.get(i) + price, moved));
        }
        longer.add(Collections.min(to, Arrays::compare));
      }
      ways = longer;
    }
    return Collections.min(ways, Arrays::compare);
  }

  private static int[] longerBy(int[] way, int shelf, int price, boolean moved) {
    int[] longer = Arrays.copyOf(way, way.length + 1);
    longer[0] += price;
    longer[1] += moved ? 1 : 0;
    longer[way.length] = shelf;
    return longer;
  }

  /** All ways tried one by one: for short traces alone. */
  int[] planByTrying() {
    List<int[]> ways = new ArrayList<>(List.of(new int[2]));
    for (int i = 0; i < trace.size(); i++) {
      List<int[]> longer = new ArrayList<>();
      for (int[] way : ways) {
        for (int s : offered()) {
          boolean moved = i > 0 && way[way.length - 1] != s;
          int price = moved ? prices[0] + prices[1] * laid(0).sizes.get(i - 1) : 0;
          longer.add(longerBy(way, s, laid(s).costs.get(i) + price, moved));
        }
      }
      ways = longer;
    }
    return ways.isEmpty() ? null : Collections.min(ways, Arrays::compare);
  }

  // ---- the shelves; what was laid and planned is kept until a call changes something

  private final Laid[] kept = new Laid[6];
  private int[] keptPlan = null;

  private void forget() {
    Arrays.fill(kept, null);
    keptPlan = null;
  }

  private Laid laid(int shelf) {
    if (kept[shelf] == null) kept[shelf] = lay(shelf);
    return kept[shelf];
  }

  private Laid lay(int shelf) {
    Laid to = new Laid();
    Way way = shelf == 0 ? new RowWay() : shelf == 1 ? new SortedWay() : shelf == 2 ? new HashWay()
        : shelf == 3 ? new TreeWay() : shelf == 4 ? new HeapWay() : new BitsWay();
    List<Integer> bag = new ArrayList<>();
    for (int[] c : trace) {
      to.costs.add(c[0] == 6 && shelf != 0 ? 0 : way.step(c[0], c[1], bag.size()));
      to.rooms.add(way.room());
      to.answers.add(answerOf(bag, c[0], c[1]));
      to.sizes.add(bag.size());
    }
    to.keys = way.keys();
    to.roomNow = way.room();
    return to;
  }

  private static int answerOf(List<Integer> bag, int kind, int key) {
    switch (kind) {
      case 0: bag.add(key); return bag.size();
      case 1: return bag.contains(key) ? 1 : 0;
      case 2: return bag.remove((Integer) key) ? 1 : 0;
      case 3: return bag.size();
      case 4: return bag.stream().min(Integer::compare).orElse(NONE);
      case 5: return bag.stream().filter(k -> k >= key).min(Integer::compare).orElse(NONE);
      case 6: return bag.isEmpty() ? NONE : bag.get(0);
      default: return Collections.frequency(bag, key);
    }
  }

  interface Way {
    int step(int kind, int key, int n);

    int room();

    List<Integer> keys();
  }

  private static final class RowWay implements Way {
    private final List<Integer> row = new ArrayList<>();
    private int c = 4;

    public int step(int kind, int key, int n) {
      int at = row.indexOf(key);
      int ask = at < 0 ? n : at + 1;
      switch (kind) {
        case 0:
          row.add(key);
          if (n < c) return 1;
          c *= 2;
          return n + 1;
        case 1: return ask;
        case 2:
          if (at < 0) return ask;
          row.remove(at);
          return ask + (n - 1 - at);
        case 6: return 1;
        default: return n;
      }
    }

    public int room() {
      return c;
    }

    public List<Integer> keys() {
      return row;
    }
  }

  private static final class SortedWay implements Way {
    private final List<Integer> row = new ArrayList<>();
    private int c = 4;

    /** Steps, then the end. */
    private int[] halve(int low, int high, int k) {
      if (low >= high) return new int[] {0, low};
      int middle = (low + high) / 2;
      int[] rest = row.get(middle) < k ? halve(middle + 1, high, k) : halve(low, middle, k);
      return new int[] {rest[0] + 1, rest[1]};
    }

    public int step(int kind, int key, int n) {
      int[] halved = halve(0, n, key);
      int ask = halved[0] + (halved[1] < n ? 1 : 0);
      switch (kind) {
        case 0:
          int grown = n == c ? n : 0;
          if (n == c) c *= 2;
          row.add(key);
          Collections.sort(row);
          return grown + halved[0] + (n - halved[1]) + 1;
        case 1:
        case 5: return ask;
        case 2:
          return row.remove((Integer) key) ? ask + n - 1 - halved[1] : ask;
        case 4: return 1;
        case 7: return halved[0] + halve(0, n, key + 1)[0];
        default: return n;
      }
    }

    public int room() {
      return c;
    }

    public List<Integer> keys() {
      return row;
    }
  }

  private static final class HashWay implements Way {
    private List<LinkedList<Integer>> chains = made(8);

    private static List<LinkedList<Integer>> made(int b) {
      List<LinkedList<Integer>> made = new ArrayList<>();
      for (int i = 0; i < b; i++) made.add(new LinkedList<>());
      return made;
    }

    public int step(int kind, int key, int n) {
      LinkedList<Integer> chain = chains.get(key % chains.size());
      int ask = 1 + (chain.contains(key) ? chain.indexOf(key) + 1 : chain.size());
      switch (kind) {
        case 0:
          int grown = n == 2 * chains.size() ? n : 0;
          if (grown > 0) {
            List<LinkedList<Integer>> wider = made(2 * chains.size());
            for (LinkedList<Integer> old : chains) for (int k : old) wider.get(k % wider.size()).addFirst(k);
            chains = wider;
          }
          chains.get(key % chains.size()).addFirst(key);
          return grown + 1;
        case 1: return ask;
        case 2:
          chain.removeFirstOccurrence(key);
          return ask;
        case 7: return 1 + chain.size();
        default: return chains.size() + n;
      }
    }

    public int room() {
      return chains.size() + 2 * keys().size();
    }

    public List<Integer> keys() {
      List<Integer> keys = new ArrayList<>();
      for (LinkedList<Integer> chain : chains) keys.addAll(chain);
      return keys;
    }
  }

  private static final class TreeWay implements Way {
    private static final class Node {
      int key;
      int many = 1;
      Node left;
      Node right;
    }

    private Node root;
    private int looked;

    private Node put(Node at, int key) {
      looked++;
      if (at == null) {
        Node made = new Node();
        made.key = key;
        return made;
      }
      if (key < at.key) at.left = put(at.left, key);
      else if (key > at.key) at.right = put(at.right, key);
      else at.many++;
      return at;
    }

    private void seek(Node at, int key) {
      if (at == null) return;
      looked++;
      if (key != at.key) seek(key < at.key ? at.left : at.right, key);
    }

    private Node strike(Node at, int key) {
      if (at == null) return null;
      looked++;
      if (key < at.key) at.left = strike(at.left, key);
      else if (key > at.key) at.right = strike(at.right, key);
      else if (--at.many == 0) {
        if (at.left == null) return at.right;
        if (at.right == null) return at.left;
        Node least = at.right;
        looked++;
        while (least.left != null) {
          least = least.left;
          looked++;
        }
        at.right = without(at.right, least);
        at.key = least.key;
        at.many = least.many;
      }
      return at;
    }

    private static Node without(Node at, Node least) {
      if (at == least) return at.right;
      at.left = without(at.left, least);
      return at;
    }

    private static int nodes(Node at) {
      return at == null ? 0 : 1 + nodes(at.left) + nodes(at.right);
    }

    public int step(int kind, int key, int n) {
      looked = 0;
      switch (kind) {
        case 0: root = put(root, key); return looked;
        case 1:
        case 5:
        case 7: seek(root, key); return looked;
        case 2: root = strike(root, key); return looked;
        case 4:
          for (Node at = root; at != null; at = at.left) looked++;
          return looked;
        default: return nodes(root);
      }
    }

    public int room() {
      return 4 * nodes(root);
    }

    public List<Integer> keys() {
      List<Integer> keys = new ArrayList<>();
      list(root, keys);
      return keys;
    }

    private static void list(Node at, List<Integer> keys) {
      if (at == null) return;
      list(at.left, keys);
      for (int i = 0; i < at.many; i++) keys.add(at.key);
      list(at.right, keys);
    }
  }

  private static final class HeapWay implements Way {
    private final List<Integer> row = new ArrayList<>();
    private int c = 4;

    private int up(int p) {
      if (p == 0 || row.get((p - 1) / 2) <= row.get(p)) return 0;
      Collections.swap(row, p, (p - 1) / 2);
      return 1 + up((p - 1) / 2);
    }

    private int down(int p) {
      int with = 2 * p + 1;
      if (with + 1 < row.size() && row.get(with + 1) < row.get(with)) with++;
      if (with >= row.size() || row.get(with) >= row.get(p)) return 0;
      Collections.swap(row, p, with);
      return 1 + down(with);
    }

    public int step(int kind, int key, int n) {
      int at = row.indexOf(key);
      int ask = at < 0 ? n : at + 1;
      switch (kind) {
        case 0:
          int grown = n == c ? n : 0;
          if (n == c) c *= 2;
          row.add(key);
          return grown + 1 + up(n);
        case 1: return ask;
        case 2:
          if (at < 0) return ask;
          int last = row.remove(n - 1);
          if (at == n - 1) return ask;
          row.set(at, last);
          int moved = up(at);
          return ask + (moved == 0 ? down(at) : moved);
        case 4: return 1;
        default: return n;
      }
    }

    public int room() {
      return c;
    }

    public List<Integer> keys() {
      return row;
    }
  }

  private static final class BitsWay implements Way {
    private final int[] counts = new int[64];

    private int look(int from) {
      for (int k = from; k < 64; k++) {
        if (counts[k] > 0) return k - from + 1;
      }
      return 64 - from;
    }

    public int step(int kind, int key, int n) {
      if (kind == 0) counts[key]++;
      if (kind == 2 && counts[key] > 0) counts[key]--;
      return kind == 3 ? 64 : kind == 4 ? look(0) : kind == 5 ? look(key) : 1;
    }

    public int room() {
      return 64;
    }

    public List<Integer> keys() {
      List<Integer> keys = new ArrayList<>();
      for (int k = 0; k < 64; k++) keys.addAll(Collections.nCopies(counts[k], k));
      return keys;
    }
  }
}
