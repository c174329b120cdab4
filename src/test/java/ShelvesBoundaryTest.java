/** Promises 9 and 10 with the terms of the SHELVES: a test of its own for each sentence that names a boundary. */
public final class ShelvesBoundaryTest extends Trial {
  private static final Due DUE = new Due("ShelvesBoundaryTest");

  public static void main(String[] args) {
    row();
    sorted();
    hash();
    tree();
    heap();
    bits();
    allShelves();
    keys();
    DUE.end();
  }

  /** What growing costs ahead of a PUT when there are n and a row of 4 has doubled whenever it was full. */
  private static int growth(int n) {
    return n == 4 || n == 8 || n == 16 || n == 32 || n == 64 || n == 128 ? n : 0;
  }

  // ---- ROW

  private static void row() {
    rowGrowsWhenFull();
    rowRoomDoubles();
    rowRoomStays();
    rowAsk();
    rowStrike();
    rowFirst();
    rowOthers();
  }

  private static void rowGrowsWhenFull() {
    DUE.of("9: ROW .. PUT: if n is c, c doubles and n steps; then 1");
    WhichShelf x = full();
    for (int n = 0; n < MOST; n++) {
      DUE.is("PUT with " + n + " there", x.cost(ROW, n), growth(n) + 1);
    }
  }

  private static void rowRoomDoubles() {
    DUE.of("9: ROOM c (4 at first)");
    WhichShelf x = new WhichShelf();
    int room = 4;
    DUE.is("ROOM at first", x.sum(ROW, 5), 4);
    for (int n = 0; n < MOST; n++) {
      x.call(PUT, 0);
      room = n == room ? 2 * room : room;
      DUE.is("ROOM of " + (n + 1), x.sum(ROW, 5), room);
    }
    DUE.is("ROOM of 200", x.sum(ROW, 5), 256);
  }

  private static void rowRoomStays() {
    DUE.of("9: ROW .. if n is c (and at no other time)");
    WhichShelf x = put(1, 2, 3, 4);
    x.call(STRIKE, 4);
    DUE.is("PUT of the fourth again", steps(x, ROW, PUT, 5), 1);
    DUE.is("PUT of the fifth", steps(x, ROW, PUT, 6), 5);
    lay(x, STRIKE, 1, 2, 3, 5, 6);
    DUE.is("ROOM when all are struck", x.sum(ROW, 5), 8);
    for (int n = 0; n < 8; n++) {
      DUE.is("PUT into the ROOM of 8", steps(x, ROW, PUT, n), 1);
    }
    DUE.is("PUT of the ninth", steps(x, ROW, PUT, 9), 9);
    DUE.is("ROOM then", x.sum(ROW, 5), 16);
  }

  private static void rowAsk() {
    DUE.of("9: ROW .. ASK: the place of the first such key and 1, else n");
    WhichShelf x = put(7, 9, 8, 9);
    DUE.is("at the first place", steps(x, ROW, ASK, 7), 1);
    DUE.is("the first of like ones", steps(x, ROW, ASK, 9), 2);
    DUE.is("not there", steps(x, ROW, ASK, 6), 4);
    x.call(PUT, 5);
    DUE.is("at the last place", steps(x, ROW, ASK, 5), 5);
    DUE.is("of nothing", steps(new WhichShelf(), ROW, ASK, 0), 0);
  }

  private static void rowStrike() {
    DUE.of("9: ROW .. STRIKE: as ASK, and how many stand behind it (they move up)");
    WhichShelf x = put(7, 9, 8, 9, 5);
    DUE.is("not there", steps(x, ROW, STRIKE, 6), 5);
    DUE.is("at the last place, none behind", steps(x, ROW, STRIKE, 5), 5);
    DUE.is("in the midst", steps(x, ROW, STRIKE, 9), 4);
    DUE.row("they moved up", keysOn(x, ROW), 7, 8, 9);
    DUE.is("at the first place", steps(x, ROW, STRIKE, 7), 3);
    DUE.row("they moved up again", keysOn(x, ROW), 8, 9);
    DUE.is("one of two", steps(x, ROW, STRIKE, 9), 2);
    DUE.is("the only one", steps(x, ROW, STRIKE, 8), 1);
    DUE.is("of nothing", steps(x, ROW, STRIKE, 8), 0);
  }

  private static void rowFirst() {
    DUE.of("9: ROW .. FIRST: 1");
    DUE.is("of nothing", steps(new WhichShelf(), ROW, FIRST, 0), 1);
    DUE.is("of one", steps(put(3), ROW, FIRST, 0), 1);
    DUE.is("of three", steps(put(3, 4, 5), ROW, FIRST, 5), 1);
  }

  private static void rowOthers() {
    DUE.of("9: ROW .. Others: n");
    for (int kind : new int[] {WALK, LEAST, NEXT, MANY}) {
      DUE.is("KIND " + kind + " of nothing", steps(new WhichShelf(), ROW, kind, 0), 0);
      DUE.is("KIND " + kind + " of one", steps(put(3), ROW, kind, 3), 1);
      DUE.is("KIND " + kind + " of five", steps(put(3, 4, 5, 6, 7), ROW, kind, 3), 5);
    }
  }

  // ---- SORTED

  private static void sorted() {
    sortedHalving();
    sortedGrowsWhenFull();
    sortedPut();
    sortedAsk();
    sortedStrike();
    sortedLeast();
    sortedMany();
    sortedWalk();
  }

  private static void sortedHalving() {
    DUE.of("9: HALVING a row by k: low 0, high n; .. middle (low + high) / 2 (cut)");
    DUE.is("of nothing", steps(new WhichShelf(), SORTED, ASK, 5), 0);
    WhichShelf one = put(10);
    DUE.is("of one, below it: place 0", steps(one, SORTED, ASK, 9), 2);
    DUE.is("of one, at it: place 0", steps(one, SORTED, ASK, 10), 2);
    DUE.is("of one, above it: place 0, ends at n", steps(one, SORTED, ASK, 11), 1);
    WhichShelf two = put(10, 20);
    DUE.is("of two, at the first: places 1, 0", steps(two, SORTED, ASK, 10), 3);
    DUE.is("of two, between: places 1, 0", steps(two, SORTED, ASK, 15), 3);
    DUE.is("of two, at the second: places 1, 0", steps(two, SORTED, ASK, 20), 3);
    DUE.is("of two, above: place 1, ends at n", steps(two, SORTED, ASK, 21), 1);
    WhichShelf three = put(10, 20, 30);
    DUE.is("of three, at the first: places 1, 0", steps(three, SORTED, ASK, 10), 3);
    DUE.is("of three, at the last: places 1, 2", steps(three, SORTED, ASK, 30), 3);
    DUE.is("of three, above: places 1, 2, ends at n", steps(three, SORTED, ASK, 31), 2);
  }

  /** Like keys: each PUT ends at place 0 and moves all, its halving being as long as n has binary places. */
  private static void sortedGrowsWhenFull() {
    DUE.of("9: SORTED .. ROOM as of a ROW. PUT: the same n steps");
    WhichShelf x = full();
    for (int n = 0; n < MOST; n++) {
      int halvings = 32 - Integer.numberOfLeadingZeros(n);
      DUE.is("PUT with " + n + " there", x.cost(SORTED, n), growth(n) + halvings + n + 1);
    }
    DUE.is("ROOM of 200", x.sum(SORTED, 5), 256);
    x.drop(72);
    DUE.is("ROOM of 128", x.sum(SORTED, 5), 128);
    x.drop(123);
    DUE.is("ROOM of 5", x.sum(SORTED, 5), 8);
    lay(x, STRIKE, 0, 0, 0, 0, 0);
    DUE.is("ROOM when all are struck", x.sum(SORTED, 5), 8);
    x.drop(6);
    DUE.is("ROOM of 4", x.sum(SORTED, 5), 4);
    DUE.is("ROOM at first", new WhichShelf().sum(SORTED, 5), 4);
  }

  private static void sortedPut() {
    DUE.of("9: SORTED .. HALVING; how many stand from its end on (they move); 1");
    DUE.is("into nothing", steps(new WhichShelf(), SORTED, PUT, 5), 1);
    DUE.is("at the head of two: places 1, 0; two move", steps(put(10, 20), SORTED, PUT, 9), 5);
    DUE.is("at the end of two: place 1; none moves", steps(put(10, 20), SORTED, PUT, 21), 2);
    DUE.is("ahead of a like one: places 1, 0; one moves", steps(put(10, 20), SORTED, PUT, 20), 4);
    WhichShelf x = put(30, 10, 20, 10);
    DUE.row("ascending", keysOn(x, SORTED), 10, 10, 20, 30);
  }

  private static void sortedAsk() {
    DUE.of("9: SORTED .. ASK, NEXT: HALVING, and 1 if its end is below n");
    for (int kind : new int[] {ASK, NEXT}) {
      DUE.is("KIND " + kind + " of nothing", steps(new WhichShelf(), SORTED, kind, 0), 0);
      WhichShelf x = put(10, 20, 30);
      DUE.is("KIND " + kind + " of the last", steps(x, SORTED, kind, 30), 3);
      DUE.is("KIND " + kind + " of none, end below n", steps(x, SORTED, kind, 29), 3);
      DUE.is("KIND " + kind + " of none, end at n", steps(x, SORTED, kind, 31), 2);
      DUE.is("KIND " + kind + " of the greatest KEY", steps(x, SORTED, kind, 63), 2);
    }
  }

  private static void sortedStrike() {
    DUE.of("9: SORTED .. STRIKE: as ASK, and, if it is there, how many stand behind that end");
    DUE.is("of nothing", steps(new WhichShelf(), SORTED, STRIKE, 0), 0);
    DUE.is("not there, end below n", steps(put(10, 20, 30), SORTED, STRIKE, 9), 3);
    DUE.is("not there, end at n", steps(put(10, 20, 30), SORTED, STRIKE, 31), 2);
    DUE.is("the first, two behind", steps(put(10, 20, 30), SORTED, STRIKE, 10), 5);
    DUE.is("the last, none behind", steps(put(10, 20, 30), SORTED, STRIKE, 30), 3);
    DUE.is("of like ones the first, two behind", steps(put(20, 20, 20), SORTED, STRIKE, 20), 5);
    DUE.is("the only one", steps(put(10), SORTED, STRIKE, 10), 2);
    WhichShelf x = put(30, 10, 20, 10);
    lay(x, STRIKE, 10, 30, 31);
    DUE.row("those left", keysOn(x, SORTED), 10, 20);
  }

  private static void sortedLeast() {
    DUE.of("9: SORTED .. LEAST: 1");
    DUE.is("of nothing", steps(new WhichShelf(), SORTED, LEAST, 0), 1);
    DUE.is("of three", steps(put(10, 20, 30), SORTED, LEAST, 63), 1);
  }

  private static void sortedMany() {
    DUE.of("9: SORTED .. MANY: HALVING by k, and by k and 1");
    DUE.is("of nothing", steps(new WhichShelf(), SORTED, MANY, 0), 0);
    DUE.is("of one: place 0 twice", steps(put(10), SORTED, MANY, 10), 2);
    DUE.is("of the greatest key, by 64 too: places 1, 0; place 1", steps(put(10, 63), SORTED, MANY, 63), 3);
    DUE.is("of the least key: places 1, 0 twice", steps(put(0, 10), SORTED, MANY, 0), 4);
    DUE.is("not there, above all: place 1 twice", steps(put(0, 10), SORTED, MANY, 11), 2);
    DUE.is("with k and 1 there: places 1, 0 twice", steps(put(10, 11), SORTED, MANY, 10), 4);
  }

  private static void sortedWalk() {
    DUE.of("9: SORTED .. WALK: n");
    DUE.is("of nothing", steps(new WhichShelf(), SORTED, WALK, 0), 0);
    DUE.is("of three", steps(put(10, 20, 20), SORTED, WALK, 0), 3);
  }

  // ---- HASH

  private static void hash() {
    hashChains();
    hashGrowsWhenTwiceFull();
    hashRoom();
    hashPutAnew();
    hashGrowsOnceOnly();
    hashAsk();
    hashStrike();
    hashMany();
    hashOthers();
  }

  private static void hashChains() {
    DUE.of("9: HASH: B chains (8 at first); key k in chain k by B");
    WhichShelf x = put(63, 56, 7, 8, 0);
    DUE.row("chain 0: 0 8 56; chain 7: 7 63", keysOn(x, HASH), 0, 8, 56, 7, 63);
    DUE.is("9 is in an empty chain", steps(x, HASH, ASK, 9), 1);
    DUE.is("16 would be in chain 0", steps(x, HASH, ASK, 16), 4);
    DUE.is("55 would be in chain 7", steps(x, HASH, ASK, 55), 3);
  }

  private static void hashGrowsWhenTwiceFull() {
    DUE.of("9: HASH .. PUT: if n is twice B, B doubles, n steps, .. then, at the head, 1");
    WhichShelf x = full();
    for (int n = 0; n < MOST; n++) {
      boolean grows = n == 16 || n == 32 || n == 64 || n == 128;
      DUE.is("PUT with " + n + " there", x.cost(HASH, n), grows ? n + 1 : 1);
    }
  }

  private static void hashRoom() {
    DUE.of("9: HASH .. ROOM B and twice n");
    WhichShelf x = new WhichShelf();
    int chains = 8;
    DUE.is("ROOM at first", x.sum(HASH, 5), 8);
    for (int n = 0; n < MOST; n++) {
      x.call(PUT, n % 64);
      chains = n == 2 * chains ? 2 * chains : chains;
      DUE.is("ROOM of " + (n + 1), x.sum(HASH, 5), chains + 2 * (n + 1));
    }
    DUE.is("B is 128, more than there are keys", x.sum(HASH, 5), 128 + 400);
  }

  private static void hashPutAnew() {
    DUE.of("9: HASH .. each chain of the old ones, from the first on, from its head on, is put anew at the head");
    WhichShelf x = put(0, 8, 16, 24, 32, 40, 48, 56, 1, 9, 17, 25, 7, 15, 23, 63);
    DUE.row("eight chains", keysOn(x, HASH), 56, 48, 40, 32, 24, 16, 8, 0, 25, 17, 9, 1, 63, 23, 15, 7);
    x.call(PUT, 0);
    // Each comes to the head as it is met, so each of the sixteen chains stands the other way round.
    DUE.row("sixteen chains", keysOn(x, HASH), 0, 0, 16, 32, 48, 1, 17, 7, 23, 8, 24, 40, 56, 9, 25, 15, 63);
    WhichShelf like = put(0, 8, 16, 24, 32, 40, 48, 56, 1, 1, 1, 1, 1, 1, 1, 33);
    DUE.is("33 at the head of its chain", steps(like, HASH, ASK, 33), 2);
    like.call(PUT, 17);
    DUE.is("33 behind 17 and seven like ones", steps(like, HASH, ASK, 33), 10);
    DUE.is("1 behind 17", steps(like, HASH, ASK, 1), 3);
  }

  private static void hashGrowsOnceOnly() {
    DUE.of("9: HASH .. if n is twice B (and at no other time)");
    WhichShelf x = new WhichShelf();
    x.draw(1, 17, 1, 0);
    DUE.is("ROOM of 17", x.sum(HASH, 5), 16 + 34);
    lay(x, STRIKE, 0, 0);
    DUE.is("ROOM of 15: B stays", x.sum(HASH, 5), 16 + 30);
    DUE.is("PUT of the 16th", steps(x, HASH, PUT, 0), 1);
    DUE.is("PUT of the 17th again", steps(x, HASH, PUT, 0), 1);
    DUE.is("ROOM then", x.sum(HASH, 5), 16 + 34);
    lay(x, STRIKE, new int[17]);
    DUE.is("ROOM of nothing: B stays", x.sum(HASH, 5), 16);
    DUE.is("WALK of nothing: B stays", steps(x, HASH, WALK, 0), 16);
  }

  private static void hashAsk() {
    DUE.of("9: HASH .. ASK: 1, and the place of the first such key in the chain and 1, else the length of the chain");
    DUE.is("of nothing", steps(new WhichShelf(), HASH, ASK, 0), 1);
    WhichShelf x = put(1, 9, 17, 9, 2);
    DUE.is("at the head, the first of like ones", steps(x, HASH, ASK, 9), 2);
    DUE.is("behind the head", steps(x, HASH, ASK, 17), 3);
    DUE.is("at the end of the chain", steps(x, HASH, ASK, 1), 5);
    DUE.is("not there, a chain of four", steps(x, HASH, ASK, 25), 5);
    DUE.is("not there, a chain of one", steps(x, HASH, ASK, 10), 2);
    DUE.is("not there, an empty chain", steps(x, HASH, ASK, 3), 1);
  }

  private static void hashStrike() {
    DUE.of("9: HASH .. STRIKE: as ASK (the first in the chain goes)");
    DUE.is("of nothing", steps(new WhichShelf(), HASH, STRIKE, 0), 1);
    WhichShelf x = put(1, 9, 17, 9, 2);
    DUE.is("not there, a chain of four", steps(x, HASH, STRIKE, 25), 5);
    DUE.is("not there, an empty chain", steps(x, HASH, STRIKE, 3), 1);
    DUE.row("none went", keysOn(x, HASH), 9, 17, 9, 1, 2);
    DUE.is("at the head", steps(x, HASH, STRIKE, 9), 2);
    DUE.row("the first went", keysOn(x, HASH), 17, 9, 1, 2);
    DUE.is("at the end of the chain", steps(x, HASH, STRIKE, 1), 4);
    DUE.row("the last went", keysOn(x, HASH), 17, 9, 2);
    DUE.is("the only one of a chain", steps(x, HASH, STRIKE, 2), 2);
    DUE.row("the chain is empty", keysOn(x, HASH), 17, 9);
  }

  private static void hashMany() {
    DUE.of("9: HASH .. MANY: 1 and the length of the chain");
    DUE.is("of nothing", steps(new WhichShelf(), HASH, MANY, 0), 1);
    WhichShelf x = put(1, 9, 17, 9, 2);
    DUE.is("of a chain of four", steps(x, HASH, MANY, 9), 5);
    DUE.is("not there, the same chain", steps(x, HASH, MANY, 33), 5);
    DUE.is("of an empty chain", steps(x, HASH, MANY, 63), 1);
  }

  private static void hashOthers() {
    DUE.of("9: HASH .. Others: B and n");
    for (int kind : new int[] {WALK, LEAST, NEXT}) {
      DUE.is("KIND " + kind + " of nothing", steps(new WhichShelf(), HASH, kind, 0), 8);
      DUE.is("KIND " + kind + " of three", steps(put(1, 2, 3), HASH, kind, 2), 11);
      WhichShelf x = new WhichShelf();
      x.draw(1, 17, 1, 0);
      DUE.is("KIND " + kind + " of 17", steps(x, HASH, kind, 0), 33);
    }
  }

  // ---- TREE

  private static void tree() {
    treePut();
    treeDeepest();
    treeRoom();
    treeAsk();
    treeNext();
    treeStrikeOfNone();
    treeStrikeOfOneOfMany();
    treeStrikeWithoutALeftChild();
    treeStrikeWithoutARightChild();
    treeStrikeWithBoth();
    treeStrikeBelowTheRoot();
    treeLeastComesWithHowMany();
    treeLeast();
    treeWalk();
  }

  /** Where each key stands: the steps to it are its depth. */
  private static void depths(String when, WhichShelf x, int[]... keysByDepth) {
    for (int depth = 1; depth <= keysByDepth.length; depth++) {
      for (int key : keysByDepth[depth - 1]) {
        DUE.is(when + ": depth of " + key, steps(x, TREE, ASK, key), depth);
      }
    }
  }

  private static int[] at(int... keys) {
    return keys;
  }

  private static void treePut() {
    DUE.of("9: TREE .. PUT: nodes looked at on the way, and 1 if there is a new one");
    WhichShelf x = new WhichShelf();
    DUE.is("the first node", steps(x, TREE, PUT, 20), 1);
    DUE.is("a like one at the root", steps(x, TREE, PUT, 20), 1);
    DUE.is("a new one on the left", steps(x, TREE, PUT, 19), 2);
    DUE.is("a new one on the right", steps(x, TREE, PUT, 21), 2);
    DUE.is("a like one below", steps(x, TREE, PUT, 21), 2);
    depths("less keys left", x, at(20), at(19, 21));
  }

  private static void treeDeepest() {
    DUE.of("9: TREE: nodes of unlike keys (64 of them in one line)");
    WhichShelf up = new WhichShelf();
    WhichShelf down = new WhichShelf();
    for (int i = 0; i < 64; i++) {
      DUE.is("PUT ascending", steps(up, TREE, PUT, i), i + 1);
      DUE.is("PUT descending", steps(down, TREE, PUT, 63 - i), i + 1);
    }
    DUE.is("ASK at the end", steps(up, TREE, ASK, 63), 64);
    DUE.is("LEAST at the root", steps(up, TREE, LEAST, 0), 1);
    DUE.is("LEAST at the end", steps(down, TREE, LEAST, 0), 64);
    DUE.is("PUT of a like one at the end", steps(down, TREE, PUT, 0), 64);
    DUE.is("ROOM of 64 nodes", down.sum(TREE, 5), 256);
    DUE.is("STRIKE of one of two at the end", steps(down, TREE, STRIKE, 0), 64);
    DUE.is("STRIKE of the other", steps(down, TREE, STRIKE, 0), 64);
    DUE.is("ROOM of 63 nodes", down.sum(TREE, 5), 252);
    DUE.is("ASK of the gone one", steps(down, TREE, ASK, 0), 63);
  }

  private static void treeRoom() {
    DUE.of("9: TREE .. ROOM 4 for each node");
    DUE.is("of nothing", new WhichShelf().sum(TREE, 5), 0);
    DUE.is("of one node", put(5).sum(TREE, 5), 4);
    DUE.is("of one node with 200", full().sum(TREE, 5), 4);
    DUE.is("of three nodes", put(5, 6, 5, 7).sum(TREE, 5), 12);
    WhichShelf x = put(5, 5);
    x.call(STRIKE, 5);
    DUE.is("with one left of it", x.sum(TREE, 5), 4);
    x.call(STRIKE, 5);
    DUE.is("with none left of it", x.sum(TREE, 5), 0);
  }

  private static void treeAsk() {
    DUE.of("9: TREE .. ASK, MANY: nodes looked at on the way to it, or to where it would be");
    for (int kind : new int[] {ASK, MANY}) {
      DUE.is("KIND " + kind + " of nothing", steps(new WhichShelf(), TREE, kind, 0), 0);
      WhichShelf x = put(20, 10, 30, 25);
      DUE.is("KIND " + kind + " of the root", steps(x, TREE, kind, 20), 1);
      DUE.is("KIND " + kind + " of a leaf", steps(x, TREE, kind, 25), 3);
      DUE.is("KIND " + kind + " to where it would be, below a leaf", steps(x, TREE, kind, 24), 3);
      DUE.is("KIND " + kind + " to where it would be, below 30", steps(x, TREE, kind, 31), 2);
    }
  }

  private static void treeNext() {
    DUE.of("9: TREE .. NEXT: .. (NEXT stops at KEY)");
    DUE.is("of nothing", steps(new WhichShelf(), TREE, NEXT, 0), 0);
    WhichShelf x = put(20, 10, 30, 25);
    DUE.is("stops at the root", steps(x, TREE, NEXT, 20), 1);
    DUE.is("stops at a node with a child", steps(x, TREE, NEXT, 30), 2);
    DUE.is("to where 21 would be", steps(x, TREE, NEXT, 21), 3);
    DUE.is("to where 63 would be", steps(x, TREE, NEXT, 63), 2);
  }

  private static void treeStrikeOfNone() {
    DUE.of("9: TREE .. STRIKE: likewise (to where it would be)");
    DUE.is("of nothing", steps(new WhichShelf(), TREE, STRIKE, 0), 0);
    WhichShelf x = put(20, 10, 30, 25);
    DUE.is("below a leaf", steps(x, TREE, STRIKE, 26), 3);
    DUE.is("below 10", steps(x, TREE, STRIKE, 0), 2);
    DUE.row("none went", keysOn(x, TREE), 10, 20, 25, 30);
    DUE.is("ROOM stays", x.sum(TREE, 5), 16);
  }

  private static void treeStrikeOfOneOfMany() {
    DUE.of("9: TREE .. STRIKE: .. if none is left of it the node goes");
    WhichShelf x = put(20, 10, 30, 20);
    DUE.is("one of two", steps(x, TREE, STRIKE, 20), 1);
    DUE.is("the node stays", x.sum(TREE, 5), 12);
    DUE.is("the other, 30 looked at", steps(x, TREE, STRIKE, 20), 2);
    DUE.is("the node is gone", x.sum(TREE, 5), 8);
  }

  private static void treeStrikeWithoutALeftChild() {
    DUE.of("9: TREE .. without a left child its right one (or none) is in its place");
    WhichShelf only = put(20);
    DUE.is("the only node", steps(only, TREE, STRIKE, 20), 1);
    DUE.is("nothing is looked at then", steps(only, TREE, ASK, 20), 0);
    WhichShelf leaves = put(20, 10, 30);
    DUE.is("a leaf on the left", steps(leaves, TREE, STRIKE, 10), 2);
    DUE.is("a leaf on the right", steps(leaves, TREE, STRIKE, 30), 2);
    depths("without leaves", leaves, at(20, 10, 30));
    WhichShelf root = put(20, 30, 25, 40);
    DUE.is("the root", steps(root, TREE, STRIKE, 20), 1);
    depths("without the root", root, at(30), at(25, 40));
    WhichShelf left = put(40, 10, 20, 15, 30);
    DUE.is("on the left of its parent", steps(left, TREE, STRIKE, 10), 2);
    depths("20 in the place of 10", left, at(40), at(20), at(15, 30));
    WhichShelf right = put(10, 20, 30, 25);
    DUE.is("on the right of its parent", steps(right, TREE, STRIKE, 20), 2);
    depths("30 in the place of 20", right, at(10), at(30), at(25));
  }

  private static void treeStrikeWithoutARightChild() {
    DUE.of("9: TREE .. without a right one its left one");
    WhichShelf root = put(20, 10, 5, 15);
    DUE.is("the root", steps(root, TREE, STRIKE, 20), 1);
    depths("without the root", root, at(10), at(5, 15));
    WhichShelf left = put(40, 30, 20, 10, 25);
    DUE.is("on the left of its parent", steps(left, TREE, STRIKE, 30), 2);
    depths("20 in the place of 30", left, at(40), at(20), at(10, 25));
    WhichShelf right = put(10, 30, 20, 15, 25);
    DUE.is("on the right of its parent", steps(right, TREE, STRIKE, 30), 2);
    depths("20 in the place of 30", right, at(10), at(20), at(15, 25));
  }

  private static void treeStrikeWithBoth() {
    DUE.of("9: TREE .. else the least key of its right part is .. in its place (.. its right child in its place)");
    WhichShelf near = put(20, 10, 30, 40);
    DUE.is("its right child is the least: 30 looked at", steps(near, TREE, STRIKE, 20), 2);
    depths("30 in the place of 20", near, at(30), at(10, 40));
    WhichShelf far = put(20, 10, 40, 30, 35, 50);
    DUE.is("the least is below: 40, 30 looked at", steps(far, TREE, STRIKE, 20), 3);
    depths("30 in the place of 20", far, at(30), at(10, 40), at(35, 50));
    WhichShelf leaf = put(20, 10, 40, 30, 25);
    DUE.is("the least is a leaf: 40, 30, 25 looked at", steps(leaf, TREE, STRIKE, 20), 4);
    depths("25 in the place of 20", leaf, at(25), at(10, 40), at(30, 26));
  }

  private static void treeStrikeBelowTheRoot() {
    DUE.of("9: TREE .. as many steps more as nodes looked at on that way (from its right child on)");
    WhichShelf left = put(40, 20, 60, 10, 30, 25, 35);
    DUE.is("on the left: 40, 20; 30, 25", steps(left, TREE, STRIKE, 20), 4);
    depths("25 in the place of 20", left, at(40), at(25, 60), at(10, 30), at(35));
    WhichShelf right = put(10, 40, 20, 60, 50, 55);
    DUE.is("on the right: 10, 40; 60, 50", steps(right, TREE, STRIKE, 40), 4);
    depths("50 in the place of 40", right, at(10), at(50), at(20, 60), at(55));
  }

  private static void treeLeastComesWithHowMany() {
    DUE.of("9: TREE .. with how many it has");
    WhichShelf x = put(20, 10, 30, 30, 30);
    x.call(STRIKE, 20);
    DUE.row("keys", keysOn(x, TREE), 10, 30, 30, 30);
    DUE.is("two nodes", x.sum(TREE, 5), 8);
    lay(x, STRIKE, 30, 30);
    DUE.is("two nodes still", x.sum(TREE, 5), 8);
    x.call(STRIKE, 30);
    DUE.is("one node", x.sum(TREE, 5), 4);
    DUE.is("10 at the root", steps(x, TREE, ASK, 10), 1);
  }

  private static void treeLeast() {
    DUE.of("9: TREE .. LEAST: nodes looked at on the way left");
    DUE.is("of nothing", steps(new WhichShelf(), TREE, LEAST, 0), 0);
    DUE.is("of one", steps(put(20), TREE, LEAST, 0), 1);
    DUE.is("without a left child", steps(put(20, 30), TREE, LEAST, 0), 1);
    DUE.is("two to the left, the right of the last not looked at", steps(put(20, 10, 15), TREE, LEAST, 0), 2);
  }

  private static void treeWalk() {
    DUE.of("9: TREE .. WALK: nodes");
    DUE.is("of nothing", steps(new WhichShelf(), TREE, WALK, 0), 0);
    DUE.is("of two unlike of five", steps(put(20, 10, 10, 20, 20), TREE, WALK, 0), 2);
  }

  // ---- HEAP

  private static void heap() {
    heapParents();
    heapGrowsWhenFull();
    heapPut();
    heapLeast();
    heapAsk();
    heapStrikeOfNone();
    heapStrikeOfTheLast();
    heapStrikeUp();
    heapStrikeDown();
    heapStrikeLesserChild();
    heapStrikeStays();
    heapOthers();
  }

  private static void heapParents() {
    DUE.of("9: HEAP .. the parent of place p is at (p - 1) / 2 (cut)");
    WhichShelf x = put(10, 20, 5);
    DUE.is("place 2 is below place 0", x.cost(HEAP, 2), 2);
    DUE.row("they changed places", keysOn(x, HEAP), 5, 20, 10);
    WhichShelf y = put(10, 20, 30, 40);
    DUE.is("place 4 is below place 1; four for the ROOM", steps(y, HEAP, PUT, 15), 6);
    DUE.row("they changed places", keysOn(y, HEAP), 10, 15, 30, 40, 20);
    DUE.is("place 5 is below place 2", steps(y, HEAP, PUT, 25), 2);
    DUE.is("place 6 is below place 2", steps(y, HEAP, PUT, 24), 2);
    DUE.row("they changed places", keysOn(y, HEAP), 10, 15, 24, 40, 20, 30, 25);
  }

  private static void heapGrowsWhenFull() {
    DUE.of("9: HEAP .. ROOM as of a ROW. PUT: the same n steps; 1");
    WhichShelf x = full();
    for (int n = 0; n < MOST; n++) {
      DUE.is("PUT with " + n + " there", x.cost(HEAP, n), growth(n) + 1);
    }
    DUE.is("ROOM of 200", x.sum(HEAP, 5), 256);
    x.drop(195);
    lay(x, STRIKE, 0, 0);
    DUE.is("ROOM stays", x.sum(HEAP, 5), 8);
    x.drop(3);
    DUE.is("ROOM of 4", x.sum(HEAP, 5), 4);
  }

  private static void heapPut() {
    DUE.of("9: HEAP .. at the end, then, as long as its parent is greater, they change places, a step each");
    WhichShelf x = put(20);
    DUE.is("like its parent", steps(x, HEAP, PUT, 20), 1);
    DUE.is("greater than its parent", steps(x, HEAP, PUT, 21), 1);
    DUE.is("up to the root", steps(x, HEAP, PUT, 19), 3);
    DUE.row("then", keysOn(x, HEAP), 19, 20, 21, 20);
    WhichShelf y = put(1, 10, 2, 20);
    DUE.is("up to a like one, which stays; four for the ROOM", steps(y, HEAP, PUT, 1), 6);
    DUE.row("then", keysOn(y, HEAP), 1, 1, 2, 20, 10);
  }

  private static void heapLeast() {
    DUE.of("9: HEAP .. LEAST: 1");
    DUE.is("of nothing", steps(new WhichShelf(), HEAP, LEAST, 0), 1);
    DUE.is("of three", steps(put(3, 2, 1), HEAP, LEAST, 63), 1);
  }

  private static void heapAsk() {
    DUE.of("9: HEAP .. ASK: as of a ROW");
    DUE.is("of nothing", steps(new WhichShelf(), HEAP, ASK, 0), 0);
    WhichShelf x = put(30, 20, 10, 30);
    DUE.is("at the root, as the heap stands", steps(x, HEAP, ASK, 10), 1);
    DUE.is("the first of like ones", steps(x, HEAP, ASK, 30), 2);
    DUE.is("not there", steps(x, HEAP, ASK, 11), 4);
    x.call(PUT, 40);
    DUE.is("at the last place", steps(x, HEAP, ASK, 40), 5);
  }

  private static void heapStrikeOfNone() {
    DUE.of("9: HEAP .. STRIKE: as ASK; if it is there, ..");
    DUE.is("of nothing", steps(new WhichShelf(), HEAP, STRIKE, 0), 0);
    WhichShelf x = put(10, 20, 30);
    DUE.is("not there", steps(x, HEAP, STRIKE, 15), 3);
    DUE.row("none went", keysOn(x, HEAP), 10, 20, 30);
  }

  private static void heapStrikeOfTheLast() {
    DUE.of("9: HEAP .. the last one goes to its place p (if it is another one)");
    WhichShelf only = put(10);
    DUE.is("the only one", steps(only, HEAP, STRIKE, 10), 1);
    DUE.row("nothing is left", keysOn(only, HEAP));
    WhichShelf x = put(10, 20, 30, 25);
    DUE.is("the last one", steps(x, HEAP, STRIKE, 25), 4);
    DUE.row("the others stay", keysOn(x, HEAP), 10, 20, 30);
    DUE.is("the one ahead of the last", steps(x, HEAP, STRIKE, 20), 2);
    DUE.row("30 in its place", keysOn(x, HEAP), 10, 30);
  }

  private static void heapStrikeUp() {
    DUE.of("9: HEAP .. then up, as long as its parent is greater");
    WhichShelf x = put(1, 20, 2, 30, 25, 3);
    DUE.is("four to 30; 3 goes above 20", steps(x, HEAP, STRIKE, 30), 5);
    DUE.row("then", keysOn(x, HEAP), 1, 3, 2, 20, 25);
    WhichShelf two = put(1, 20, 2, 30, 25, 3, 4, 40, 41, 42, 43, 5, 6);
    // 6, the last, comes in the place of 40 (below 30, below 20).
    DUE.is("eight to 40; 6 goes above 30 and 20", steps(two, HEAP, STRIKE, 40), 10);
    DUE.row("then", keysOn(two, HEAP), 1, 6, 2, 20, 25, 3, 4, 30, 41, 42, 43, 5);
    WhichShelf like = put(1, 20, 2, 30, 25, 20);
    DUE.row("20 at place 5", keysOn(like, HEAP), 1, 20, 2, 30, 25, 20);
    DUE.is("four to 30; 20 stays below a like one", steps(like, HEAP, STRIKE, 30), 4);
    DUE.row("then", keysOn(like, HEAP), 1, 20, 2, 20, 25);
  }

  private static void heapStrikeDown() {
    DUE.of("9: HEAP .. or, if it did not go, down, as long as a child is less");
    WhichShelf left = put(1, 2, 3);
    DUE.is("a left child alone, less", steps(left, HEAP, STRIKE, 1), 2);
    DUE.row("then", keysOn(left, HEAP), 2, 3);
    WhichShelf deep = put(1, 3, 2, 7, 5, 6, 4, 9, 8, 10);
    DUE.is("10 goes below 2 and 4", steps(deep, HEAP, STRIKE, 1), 3);
    DUE.row("then", keysOn(deep, HEAP), 2, 3, 4, 7, 5, 6, 10, 9, 8);
    DUE.is("8 goes below 5, where it has no child", steps(deep, HEAP, STRIKE, 3), 3);
    DUE.row("then", keysOn(deep, HEAP), 2, 5, 4, 7, 8, 6, 10, 9);
    DUE.is("9 goes below 7, where its child is gone", steps(deep, HEAP, STRIKE, 5), 3);
    DUE.row("then", keysOn(deep, HEAP), 2, 7, 4, 9, 8, 6, 10);
  }

  private static void heapStrikeLesserChild() {
    DUE.of("9: HEAP .. with the lesser child (of equal ones the left)");
    WhichShelf right = put(1, 7, 5, 9, 8, 6);
    DUE.is("the right is less", steps(right, HEAP, STRIKE, 1), 2);
    DUE.row("with the right", keysOn(right, HEAP), 5, 7, 6, 9, 8);
    WhichShelf left = put(1, 5, 7, 6, 9, 8);
    DUE.is("the left is less", steps(left, HEAP, STRIKE, 1), 3);
    DUE.row("with the left", keysOn(left, HEAP), 5, 6, 7, 8, 9);
    WhichShelf equal = put(1, 5, 5, 9, 8);
    DUE.is("both are equal", steps(equal, HEAP, STRIKE, 1), 2);
    DUE.row("with the left of equal ones", keysOn(equal, HEAP), 5, 8, 5, 9);
  }

  private static void heapStrikeStays() {
    DUE.of("9: HEAP .. a step each (none where it stays)");
    WhichShelf like = put(1, 2, 2);
    DUE.is("2 stays above a like one", steps(like, HEAP, STRIKE, 1), 1);
    DUE.row("then", keysOn(like, HEAP), 2, 2);
    WhichShelf same = put(5, 7, 5);
    DUE.is("a like one in its place", steps(same, HEAP, STRIKE, 5), 1);
    DUE.row("then", keysOn(same, HEAP), 5, 7);
    WhichShelf leaf = put(1, 2, 3, 4, 5);
    DUE.is("four to 4; 5 in the place of a leaf", steps(leaf, HEAP, STRIKE, 4), 4);
    DUE.row("then", keysOn(leaf, HEAP), 1, 2, 3, 5);
  }

  private static void heapOthers() {
    DUE.of("9: HEAP .. Others: n");
    for (int kind : new int[] {WALK, NEXT, MANY}) {
      DUE.is("KIND " + kind + " of nothing", steps(new WhichShelf(), HEAP, kind, 0), 0);
      DUE.is("KIND " + kind + " of three", steps(put(1, 2, 3), HEAP, kind, 1), 3);
    }
  }

  // ---- BITS

  private static void bits() {
    bitsRoom();
    bitsOfOneStep();
    bitsWalk();
    bitsLeast();
    bitsNext();
  }

  private static void bitsRoom() {
    DUE.of("9: BITS .. ROOM 64");
    DUE.is("of nothing", new WhichShelf().sum(BITS, 5), 64);
    DUE.is("of 200", full().sum(BITS, 5), 64);
  }

  private static void bitsOfOneStep() {
    DUE.of("9: BITS .. PUT, ASK, STRIKE, MANY: 1");
    for (int kind : new int[] {PUT, ASK, STRIKE, MANY}) {
      DUE.is("KIND " + kind + " of nothing", steps(new WhichShelf(), BITS, kind, 63), 1);
      DUE.is("KIND " + kind + " of two", steps(put(63, 63), BITS, kind, 63), 1);
    }
    WhichShelf x = put(63, 63);
    lay(x, STRIKE, 63, 63, 63);
    x.call(PUT, 63);
    DUE.row("a STRIKE of none takes none", keysOn(x, BITS), 63);
    WhichShelf three = put(63, 63, 63);
    three.call(STRIKE, 63);
    DUE.row("a STRIKE takes one of three", keysOn(three, BITS), 63, 63);
  }

  private static void bitsWalk() {
    DUE.of("9: BITS .. WALK: 64");
    DUE.is("of nothing", steps(new WhichShelf(), BITS, WALK, 0), 64);
    DUE.is("of three", steps(put(1, 2, 2), BITS, WALK, 63), 64);
  }

  private static void bitsLeast() {
    DUE.of("9: BITS .. LEAST: how many counts are looked at, from 0 on to one above 0, or the last");
    DUE.is("0 is there", steps(put(0, 1), BITS, LEAST, 63), 1);
    DUE.is("1 is there", steps(put(1), BITS, LEAST, 0), 2);
    DUE.is("62 is there", steps(put(62), BITS, LEAST, 0), 63);
    DUE.is("63 is there", steps(put(63), BITS, LEAST, 0), 64);
    DUE.is("none is there", steps(new WhichShelf(), BITS, LEAST, 0), 64);
  }

  private static void bitsNext() {
    DUE.of("9: BITS .. NEXT: how many counts are looked at, from KEY on to one above 0, or the last");
    DUE.is("KEY is there", steps(put(5), BITS, NEXT, 5), 1);
    DUE.is("one above is there", steps(put(4, 6), BITS, NEXT, 5), 2);
    DUE.is("0 from 0 on", steps(put(0), BITS, NEXT, 0), 1);
    DUE.is("63 from 0 on", steps(put(63), BITS, NEXT, 0), 64);
    DUE.is("63 from 63 on", steps(put(63), BITS, NEXT, 63), 1);
    DUE.is("none from 63 on", steps(put(62), BITS, NEXT, 63), 1);
    DUE.is("none from 62 on", steps(put(61), BITS, NEXT, 62), 2);
    DUE.is("none from 0 on", steps(new WhichShelf(), BITS, NEXT, 0), 64);
  }

  // ---- all of them

  private static void allShelves() {
    firstCostsNothing();
    allAreSteppedAlong();
    strikesOfAlmostAll();
    noSuchCost();
  }

  private static void firstCostsNothing() {
    DUE.of("9: FIRST costs 0 on all but the ROW");
    DUE.row("of nothing", stepsOnAll(new WhichShelf(), FIRST, 0), 1, 0, 0, 0, 0, 0);
    DUE.row("of three", stepsOnAll(put(3, 2, 1), FIRST, 2), 1, 0, 0, 0, 0, 0);
    DUE.row("of 199", stepsOnAll(almostFull(), FIRST, 0), 1, 0, 0, 0, 0, 0);
  }

  private static WhichShelf almostFull() {
    WhichShelf x = full();
    x.drop(1);
    return x;
  }

  private static void allAreSteppedAlong() {
    DUE.of("9: SHELVES are all stepped along the whole TRACE");
    WhichShelf x = new WhichShelf();
    x.law(1, true);
    x.law(2, true);
    DUE.row("the first PUT, none OFFERED", stepsOnAll(x, PUT, 9), 1, 1, 1, 1, 1, 1);
    // SORTED: place 0, one moves, 1; TREE: 9, a new one; HEAP: 1, up one
    DUE.row("the second PUT", stepsOnAll(x, PUT, 1), 1, 3, 1, 2, 2, 1);
    DUE.row("FIRST", stepsOnAll(x, FIRST, 0), 1, 0, 0, 0, 0, 0);
    // HASH: chain 1 is 1 9; SORTED, HEAP: 1 9; SORTED: place 1, place 0, 1
    DUE.row("ASK behind FIRST", stepsOnAll(x, ASK, 1), 2, 3, 2, 2, 1, 1);
    for (int shelf = 0; shelf < 6; shelf++) {
      DUE.is("keys of both PUTs", keysOn(x, shelf).length, 2);
    }
  }

  private static void strikesOfAlmostAll() {
    DUE.of("9: Steps of CALL i (a STRIKE as the 200th, 199 being there)");
    WhichShelf x = almostFull();
    // SORTED: eight halvings, 1, 198 behind it
    DUE.row("the first of like ones", stepsOnAll(x, STRIKE, 0), 199, 207, 2, 1, 1, 1);
    for (int shelf = 0; shelf < 6; shelf++) {
      DUE.is("the last of 198", x.key(shelf, 197), 0);
      DUE.is("behind it", x.key(shelf, 198), NONE);
    }
    WhichShelf last = full();
    last.drop(2);
    last.call(PUT, 63);
    // SORTED: places 99, 149, 174, 187, 193, 196, 198, 197, and 1; HASH: alone in its chain
    DUE.row("the last of all", stepsOnAll(last, STRIKE, 63), 199, 9, 2, 2, 199, 1);
    for (int shelf = 0; shelf < 6; shelf++) {
      DUE.is("the one ahead of it stays", last.key(shelf, 197), 0);
      DUE.is("it is gone", last.key(shelf, 198), NONE);
    }
  }

  private static void noSuchCost() {
    DUE.of("9: NONE: none such");
    WhichShelf x = put(5, 3);
    for (int shelf : new int[] {-1, 6, LOWEST, HIGHEST}) {
      DUE.is("SHELF " + shelf, x.cost(shelf, 0), NONE);
    }
    for (int i : new int[] {-1, 2, 199, 200, LOWEST, HIGHEST}) {
      for (int shelf = -1; shelf <= 6; shelf++) {
        DUE.is("CALL " + i + " on SHELF " + shelf, x.cost(shelf, i), NONE);
      }
    }
    DUE.is("the first CALL on the first SHELF", x.cost(ROW, 0), 1);
    DUE.is("the last CALL on the last SHELF", x.cost(BITS, 1), 1);
    DUE.is("without CALLS", new WhichShelf().cost(ROW, 0), NONE);
    DUE.is("the last of 200", full().cost(BITS, 199), 1);
    DUE.is("behind the last of 200", full().cost(BITS, 200), NONE);
  }

  // ---- Promise 10

  private static void keys() {
    keysAsTheyStand();
    likeKeysTogether();
    keysOfAFullTrace();
    noSuchKey();
    noKeyWhenAllAreStruck();
  }

  private static void keysAsTheyStand() {
    DUE.of("10: ROW, SORTED, HEAP as the row stands; HASH chain by chain, from its head on; TREE, BITS ascending");
    WhichShelf x = put(63, 8, 0, 16, 8);
    DUE.row("ROW", keysOn(x, ROW), 63, 8, 0, 16, 8);
    DUE.row("SORTED", keysOn(x, SORTED), 0, 8, 8, 16, 63);
    DUE.row("HASH", keysOn(x, HASH), 8, 16, 0, 8, 63);
    DUE.row("TREE", keysOn(x, TREE), 0, 8, 8, 16, 63);
    DUE.row("HEAP", keysOn(x, HEAP), 0, 8, 8, 63, 16);
    DUE.row("BITS", keysOn(x, BITS), 0, 8, 8, 16, 63);
  }

  private static void likeKeysTogether() {
    DUE.of("10: TREE, BITS ascending, like ones together");
    WhichShelf x = put(63, 0, 63, 0, 5);
    DUE.row("TREE", keysOn(x, TREE), 0, 0, 5, 63, 63);
    DUE.row("BITS", keysOn(x, BITS), 0, 0, 5, 63, 63);
  }

  private static void keysOfAFullTrace() {
    DUE.of("10: Key at place i of a SHELF behind the TRACE (200 of them)");
    WhichShelf x = full();
    for (int shelf = 0; shelf < 6; shelf++) {
      DUE.is("the first place", x.key(shelf, 0), 0);
      DUE.is("the last place", x.key(shelf, 199), 0);
      DUE.is("behind it", x.key(shelf, 200), NONE);
    }
  }

  private static void noSuchKey() {
    DUE.of("10: NONE: none such");
    WhichShelf x = put(5, 3);
    for (int shelf = -1; shelf <= 6; shelf++) {
      for (int i : new int[] {-1, 2, 63, 64, 199, 200, LOWEST, HIGHEST}) {
        DUE.is("place " + i + " of SHELF " + shelf, x.key(shelf, i), NONE);
      }
    }
    for (int shelf : new int[] {-1, 6, LOWEST, HIGHEST}) {
      DUE.is("SHELF " + shelf, x.key(shelf, 0), NONE);
    }
    DUE.is("the last place of the first SHELF", x.key(ROW, 1), 3);
    DUE.is("the last place of the last SHELF", x.key(BITS, 1), 5);
  }

  private static void noKeyWhenAllAreStruck() {
    DUE.of("10: NONE: none such (of nothing)");
    WhichShelf x = put(5, 3);
    lay(x, STRIKE, 5, 3);
    for (int shelf = 0; shelf < 6; shelf++) {
      DUE.is("of a new object", new WhichShelf().key(shelf, 0), NONE);
      DUE.is("when all are struck", x.key(shelf, 0), NONE);
    }
  }
}
