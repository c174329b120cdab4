import java.util.ArrayList;
import java.util.List;

/** What the tests by hand share: names of the numbers that the document gives, and short ways to lay and to ask. */
abstract class Trial {
  static final int NONE = WhichShelf.NONE;
  static final int PUT = 0;
  static final int ASK = 1;
  static final int STRIKE = 2;
  static final int WALK = 3;
  static final int LEAST = 4;
  static final int NEXT = 5;
  static final int FIRST = 6;
  static final int MANY = 7;
  static final int ROW = 0;
  static final int SORTED = 1;
  static final int HASH = 2;
  static final int TREE = 3;
  static final int HEAP = 4;
  static final int BITS = 5;
  static final int MOST = 200;
  static final int LOWEST = Integer.MIN_VALUE;
  static final int HIGHEST = Integer.MAX_VALUE;

  static WhichShelf put(int... keys) {
    WhichShelf x = new WhichShelf();
    lay(x, PUT, keys);
    return x;
  }

  static void lay(WhichShelf x, int kind, int... keys) {
    for (int key : keys) {
      x.call(kind, key);
    }
  }

  /** PUTs of key 0 alone, as many as there can be. */
  static WhichShelf full() {
    WhichShelf x = new WhichShelf();
    x.draw(1, 100, 1, 0);
    x.draw(1, 100, 1, 0);
    return x;
  }

  /** Lays one call more: its steps on a shelf. */
  static int steps(WhichShelf x, int shelf, int kind, int key) {
    return x.cost(shelf, x.call(kind, key));
  }

  /** Lays one call more: its steps on each shelf. */
  static int[] stepsOnAll(WhichShelf x, int kind, int key) {
    int i = x.call(kind, key);
    int[] steps = new int[6];
    for (int shelf = 0; shelf < 6; shelf++) {
      steps[shelf] = x.cost(shelf, i);
    }
    return steps;
  }

  static int[] keysOn(WhichShelf x, int shelf) {
    List<Integer> keys = new ArrayList<>();
    int key = x.key(shelf, 0);
    while (key != NONE && keys.size() < MOST) {
      keys.add(key);
      key = x.key(shelf, keys.size());
    }
    return asArray(keys);
  }

  /** One what of sum() for each shelf. */
  static int[] sums(WhichShelf x, int what) {
    int[] sums = new int[6];
    for (int shelf = 0; shelf < 6; shelf++) {
      sums[shelf] = x.sum(shelf, what);
    }
    return sums;
  }

  static int[] offered(WhichShelf x) {
    return sums(x, 4);
  }

  static int[] roomsNow(WhichShelf x) {
    return sums(x, 5);
  }

  static int[] stagesOf(WhichShelf x) {
    int[] stages = new int[x.count(0)];
    for (int i = 0; i < stages.length; i++) {
      stages[i] = x.stage(i);
    }
    return stages;
  }

  /** What can be asked of the whole trace: 42 calls, so that it can be done for a long trace too. */
  static int[] wholes(WhichShelf x) {
    List<Integer> all = new ArrayList<>();
    for (int what = 0; what < 5; what++) {
      all.add(x.count(what));
    }
    for (int what = 0; what < 6; what++) {
      for (int sum : sums(x, what)) {
        all.add(sum);
      }
    }
    all.add(x.stages());
    return asArray(all);
  }

  /** All that can be asked of a trace of at most eight calls: fewer than 200 calls. */
  static int[] everything(WhichShelf x) {
    List<Integer> all = new ArrayList<>();
    for (int whole : wholes(x)) {
      all.add(whole);
    }
    for (int i = 0; i < x.count(0); i++) {
      all.add(x.told(i, 0));
      all.add(x.told(i, 1));
      all.add(x.told(i, 2));
      all.add(Due.answer(x, i));
      all.add(x.stage(i));
      for (int shelf = 0; shelf < 6; shelf++) {
        all.add(x.cost(shelf, i));
        all.add(x.key(shelf, i));
      }
    }
    return asArray(all);
  }

  private static int[] asArray(List<Integer> list) {
    return list.stream().mapToInt(Integer::intValue).toArray();
  }
}
