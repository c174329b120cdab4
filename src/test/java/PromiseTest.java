/** Each promise by hand: ordinary inputs, the edges that the document names, wrong inputs. */
public final class PromiseTest extends Trial {
  private static final Due DUE = new Due("PromiseTest");

  public static void main(String[] args) {
    newObject();
    call();
    draw();
    drop();
    law();
    set();
    told();
    answer();
    costOfRow();
    costOfSorted();
    costOfHash();
    costOfTree();
    costOfHeap();
    costOfBits();
    costOfNone();
    key();
    sum();
    best();
    drift();
    stages();
    stagesOfEqualSums();
    count();
    refusedCallsChangeNothing();
    DUE.end();
  }

  // Promise 1
  private static void newObject() {
    WhichShelf x = new WhichShelf();
    DUE.row("new: count", new int[] {x.count(0), x.count(1), x.count(2), x.count(3), x.count(4)}, 0, 10, 2, 0, 0);
    DUE.row("new: ROOM", new int[] {x.sum(0, 5), x.sum(1, 5), x.sum(2, 5), x.sum(3, 5), x.sum(4, 5), x.sum(5, 5)},
        4, 4, 8, 0, 4, 64);
    for (int shelf = 0; shelf < 6; shelf++) {
      DUE.is("new: steps", x.sum(shelf, 0), 0);
      DUE.is("new: worst steps", x.sum(shelf, 1), 0);
      DUE.is("new: worst call", x.sum(shelf, 2), NONE);
      DUE.is("new: greatest ROOM", x.sum(shelf, 3), 0);
      DUE.is("new: OFFERED", x.sum(shelf, 4), 1);
      DUE.is("new: key", x.key(shelf, 0), NONE);
    }
  }

  // Promise 2
  private static void call() {
    WhichShelf x = new WhichShelf();
    DUE.is("first call", x.call(PUT, 63), 0);
    DUE.is("call of the last kind", x.call(MANY, 0), 1);
    DUE.is("kind -1", x.call(-1, 0), NONE);
    DUE.is("kind 8", x.call(8, 0), NONE);
    DUE.is("key -1", x.call(PUT, -1), NONE);
    DUE.is("key 64", x.call(PUT, 64), NONE);
    DUE.is("key 64 of a kind without one", x.call(WALK, 64), NONE);
    DUE.is("least kind", x.call(Integer.MIN_VALUE, 0), NONE);
    DUE.is("greatest key", x.call(PUT, Integer.MAX_VALUE), NONE);
    for (int i = 2; i < 200; i++) {
      DUE.is("call", x.call(PUT, i % 64), i);
    }
    DUE.is("call 200", x.call(PUT, 0), NONE);
    DUE.is("calls", x.count(0), 200);
    DUE.is("all are there", Due.answer(x, 199), 199);
  }

  // Promise 3
  private static void draw() {
    WhichShelf x = new WhichShelf();
    DUE.is("draw", x.draw(-7, 100, 50, 0xAA), 100);
    int r = -7;
    for (int i = 0; i < 100; i++) {
      r = r * 1103515245 + 12345;
      int kind = (r >>> 16) % 8;
      r = r * 1103515245 + 12345;
      DUE.is("drawn kind", x.told(i, 0), kind % 2 == 1 ? kind : PUT);
      DUE.is("drawn key", x.told(i, 1), (r >>> 16) % 50);
    }
    DUE.is("none drawn", x.draw(5, 0, 64, 255), 100);
    DUE.is("101", x.draw(5, 101, 64, 255), NONE);
    DUE.is("-1", x.draw(5, -1, 64, 255), NONE);
    DUE.is("0 keys", x.draw(5, 1, 0, 255), NONE);
    DUE.is("0 keys for none", x.draw(5, 0, 0, 255), NONE);
    DUE.is("65 keys", x.draw(5, 1, 65, 255), NONE);
    DUE.is("mask -1", x.draw(5, 1, 64, -1), NONE);
    DUE.is("mask 256", x.draw(5, 1, 64, 256), NONE);
    DUE.is("to 199", x.draw(5, 99, 1, 0), 199);
    DUE.is("past 200", x.draw(5, 2, 1, 0), NONE);
    DUE.is("to 200", x.draw(5, 1, 1, 0), 200);
    DUE.is("none past 200", x.draw(5, 0, 1, 0), 200);
    DUE.is("one past 200", x.draw(5, 1, 1, 0), NONE);
  }

  // Promise 4
  private static void drop() {
    WhichShelf x = put(5, 3, 9, 1, 7);
    DUE.is("drop -1", x.drop(-1), NONE);
    DUE.is("drop too many", x.drop(6), NONE);
    DUE.is("drop none", x.drop(0), 5);
    DUE.is("ROOM grown", x.sum(ROW, 5), 8);
    DUE.is("drop 2", x.drop(2), 3);
    DUE.is("ROOM as it was", x.sum(ROW, 5), 4);
    DUE.is("greatest ROOM as it was", x.sum(ROW, 3), 4);
    DUE.row("row as it was", keysOn(x, ROW), 5, 3, 9);
    DUE.row("heap as it was", keysOn(x, HEAP), 3, 5, 9);
    DUE.row("tree as it was", keysOn(x, TREE), 3, 5, 9);
    DUE.is("nodes as they were", x.sum(TREE, 5), 12);
    DUE.is("dropped call", x.cost(ROW, 3), NONE);
    DUE.is("dropped answer", Due.answer(x, 3), Due.THROWN);
    DUE.is("a call behind it", x.call(STRIKE, 5), 3);
    DUE.is("its answer", Due.answer(x, 3), 1);
    DUE.is("strike undone", x.drop(1), 3);
    DUE.row("row with the struck one again", keysOn(x, ROW), 5, 3, 9);
    DUE.is("drop all", x.drop(3), 0);
    DUE.is("drop of none", x.drop(1), NONE);
    DUE.is("nothing left", x.key(BITS, 0), NONE);
  }

  // Promise 5
  private static void law() {
    WhichShelf x = new WhichShelf();
    DUE.is("law 0", x.law(0, true), false);
    DUE.is("law 3", x.law(3, true), false);
    DUE.is("law -1", x.law(-1, false), false);
    DUE.is("law 1", x.law(1, true), true);
    DUE.row("offered by law 1", offered(x), 0, 1, 0, 1, 0, 1);
    DUE.is("law 2", x.law(2, true), true);
    DUE.row("offered by both", offered(x), 0, 0, 0, 0, 0, 0);
    DUE.is("law 1 no more", x.law(1, false), true);
    DUE.row("offered by law 2", offered(x), 1, 0, 0, 0, 0, 0);
    DUE.is("law 2 no more", x.law(2, false), true);
    DUE.row("offered by none", offered(x), 1, 1, 1, 1, 1, 1);
    x.call(FIRST, 0);
    DUE.row("offered with FIRST", offered(x), 1, 0, 0, 0, 0, 0);
    x.law(1, true);
    DUE.row("offered with FIRST and law 1", offered(x), 0, 0, 0, 0, 0, 0);
    x.drop(1);
    DUE.row("offered without FIRST again", offered(x), 0, 1, 0, 1, 0, 1);
  }

  // Promise 6
  private static void set() {
    WhichShelf x = new WhichShelf();
    DUE.is("FEE", x.set(0, 1000), 10);
    DUE.is("FEE again", x.set(0, 0), 1000);
    DUE.is("EACH", x.set(1, 1000), 2);
    DUE.is("EACH again", x.set(1, 7), 1000);
    DUE.is("what 2", x.set(2, 5), NONE);
    DUE.is("what -1", x.set(-1, 5), NONE);
    DUE.is("v -1", x.set(0, -1), NONE);
    DUE.is("v 1001", x.set(1, 1001), NONE);
    DUE.is("FEE now", x.count(1), 0);
    DUE.is("EACH now", x.count(2), 7);
  }

  // Promise 7
  private static void told() {
    WhichShelf x = put(4, 4);
    x.call(STRIKE, 4);
    x.call(STRIKE, 60);
    x.call(FIRST, 11);
    DUE.row("kinds", new int[] {x.told(0, 0), x.told(2, 0), x.told(4, 0)}, PUT, STRIKE, FIRST);
    DUE.row("keys", new int[] {x.told(0, 1), x.told(3, 1), x.told(4, 1)}, 4, 60, 11);
    DUE.row("how many", new int[] {x.told(0, 2), x.told(1, 2), x.told(2, 2), x.told(3, 2), x.told(4, 2)},
        1, 2, 1, 1, 1);
    DUE.is("what 3", x.told(0, 3), NONE);
    DUE.is("what -1", x.told(0, -1), NONE);
    DUE.is("call -1", x.told(-1, 0), NONE);
    DUE.is("call 5", x.told(5, 0), NONE);
  }

  // Promise 8
  private static void answer() {
    WhichShelf x = new WhichShelf();
    DUE.is("answer without calls", Due.answer(x, 0), Due.THROWN);
    int[] kinds = {ASK, STRIKE, WALK, LEAST, NEXT, FIRST, MANY};
    int[] ofNone = {0, 0, 0, NONE, NONE, NONE, 0};
    for (int i = 0; i < kinds.length; i++) {
      DUE.is("answer on nothing", Due.answer(x, x.call(kinds[i], 0)), ofNone[i]);
    }
    x = put(20, 10, 20, 30);
    DUE.is("PUT", Due.answer(x, 3), 4);
    DUE.is("ASK there", Due.answer(x, x.call(ASK, 20)), 1);
    DUE.is("ASK not there", Due.answer(x, x.call(ASK, 21)), 0);
    DUE.is("WALK", Due.answer(x, x.call(WALK, 0)), 4);
    DUE.is("LEAST", Due.answer(x, x.call(LEAST, 25)), 10);
    DUE.is("NEXT itself", Due.answer(x, x.call(NEXT, 20)), 20);
    DUE.is("NEXT above", Due.answer(x, x.call(NEXT, 21)), 30);
    DUE.is("NEXT of none", Due.answer(x, x.call(NEXT, 31)), NONE);
    DUE.is("MANY", Due.answer(x, x.call(MANY, 20)), 2);
    DUE.is("FIRST", Due.answer(x, x.call(FIRST, 63)), 20);
    DUE.is("STRIKE", Due.answer(x, x.call(STRIKE, 20)), 1);
    DUE.is("FIRST when the first of like ones is struck", Due.answer(x, x.call(FIRST, 0)), 10);
    DUE.is("MANY then", Due.answer(x, x.call(MANY, 20)), 1);
    DUE.is("STRIKE of none", Due.answer(x, x.call(STRIKE, 21)), 0);
    DUE.is("call -1", Due.answer(x, -1), Due.THROWN);
    DUE.is("call behind the last", Due.answer(x, x.count(0)), Due.THROWN);
    DUE.is("greatest call", Due.answer(x, Integer.MAX_VALUE), Due.THROWN);
  }

  // Promise 9, and the shelves of the terms, one by one
  private static void costOfRow() {
    WhichShelf x = put(20, 10, 20, 30);
    DUE.is("ROW PUT", x.cost(ROW, 3), 1);
    DUE.is("ROW PUT when full", steps(x, ROW, PUT, 5), 5);
    DUE.is("ROW PUT in the new ROOM", steps(x, ROW, PUT, 6), 1);
    DUE.is("ROW ASK first", steps(x, ROW, ASK, 20), 1);
    DUE.is("ROW ASK last", steps(x, ROW, ASK, 6), 6);
    DUE.is("ROW ASK none", steps(x, ROW, ASK, 7), 6);
    DUE.is("ROW STRIKE", steps(x, ROW, STRIKE, 10), 6);
    DUE.is("ROW STRIKE none", steps(x, ROW, STRIKE, 10), 5);
    DUE.is("ROW WALK", steps(x, ROW, WALK, 0), 5);
    DUE.is("ROW LEAST", steps(x, ROW, LEAST, 0), 5);
    DUE.is("ROW NEXT", steps(x, ROW, NEXT, 20), 5);
    DUE.is("ROW MANY", steps(x, ROW, MANY, 20), 5);
    DUE.is("ROW FIRST", steps(x, ROW, FIRST, 0), 1);
    DUE.is("ROW FIRST of none", steps(new WhichShelf(), ROW, FIRST, 0), 1);
    DUE.is("ROW LEAST of none", steps(new WhichShelf(), ROW, LEAST, 0), 0);
    x.call(PUT, 1);
    x.call(PUT, 2);
    x.call(PUT, 3);
    DUE.is("ROW ROOM", x.sum(ROW, 5), 8);
    DUE.is("ROW PUT when full again", steps(x, ROW, PUT, 4), 9);
    DUE.is("ROW ROOM then", x.sum(ROW, 5), 16);
  }

  private static void costOfSorted() {
    WhichShelf x = put(20, 10, 20, 30);
    // 30 into 10 20 20: middles 1 and 2, none moved
    DUE.is("SORTED PUT at the end", x.cost(SORTED, 3), 3);
    // four for the ROOM; 5 into 10 20 20 30: middles 2, 1, 0; four moved; 1
    DUE.is("SORTED PUT when full, at the head", steps(x, SORTED, PUT, 5), 12);
    // 5 10 20 20 30: middles 2, 1, 0 for 4; 2, 4, 3 for 25 and 30; 2, 4 for 31 and 63
    DUE.is("SORTED ASK there", steps(x, SORTED, ASK, 30), 4);
    DUE.is("SORTED ASK not there, end below n", steps(x, SORTED, ASK, 4), 4);
    DUE.is("SORTED ASK not there, end at n", steps(x, SORTED, ASK, 31), 2);
    DUE.is("SORTED NEXT", steps(x, SORTED, NEXT, 25), 4);
    DUE.is("SORTED NEXT none", steps(x, SORTED, NEXT, 63), 2);
    // by 20: 2, 1; by 21: 2, 4, 3
    DUE.is("SORTED MANY", steps(x, SORTED, MANY, 20), 5);
    DUE.is("SORTED MANY of the greatest key", steps(x, SORTED, MANY, 63), 4);
    DUE.is("SORTED LEAST", steps(x, SORTED, LEAST, 0), 1);
    DUE.is("SORTED WALK", steps(x, SORTED, WALK, 0), 5);
    DUE.is("SORTED FIRST", steps(x, SORTED, FIRST, 0), 0);
    // middles 2, 1 for 11 and 20, both end at 2, with two behind it
    DUE.is("SORTED STRIKE none", steps(x, SORTED, STRIKE, 11), 3);
    DUE.is("SORTED STRIKE", steps(x, SORTED, STRIKE, 20), 5);
    DUE.row("SORTED then", keysOn(x, SORTED), 5, 10, 20, 30);
    DUE.is("SORTED ROOM stays", x.sum(SORTED, 5), 8);
    DUE.is("SORTED LEAST of none", steps(new WhichShelf(), SORTED, LEAST, 0), 1);
    DUE.is("SORTED ASK of none", steps(new WhichShelf(), SORTED, ASK, 0), 0);
  }

  private static void costOfHash() {
    WhichShelf x = put(1, 9, 17, 2, 9);
    // chain 1: 9 17 9 1; chain 2: 2
    DUE.row("HASH chain by chain", keysOn(x, HASH), 9, 17, 9, 1, 2);
    DUE.is("HASH PUT", x.cost(HASH, 4), 1);
    DUE.is("HASH ASK", steps(x, HASH, ASK, 17), 3);
    DUE.is("HASH ASK at the head", steps(x, HASH, ASK, 9), 2);
    DUE.is("HASH ASK none in the chain", steps(x, HASH, ASK, 25), 5);
    DUE.is("HASH ASK in no chain", steps(x, HASH, ASK, 3), 1);
    DUE.is("HASH MANY", steps(x, HASH, MANY, 9), 5);
    DUE.is("HASH MANY in no chain", steps(x, HASH, MANY, 0), 1);
    DUE.is("HASH WALK", steps(x, HASH, WALK, 0), 13);
    DUE.is("HASH LEAST", steps(x, HASH, LEAST, 0), 13);
    DUE.is("HASH NEXT", steps(x, HASH, NEXT, 63), 13);
    DUE.is("HASH FIRST", steps(x, HASH, FIRST, 0), 0);
    DUE.is("HASH ROOM", x.sum(HASH, 5), 18);
    DUE.is("HASH STRIKE", steps(x, HASH, STRIKE, 9), 2);
    DUE.row("HASH the first in the chain is gone", keysOn(x, HASH), 17, 9, 1, 2);
    DUE.is("HASH STRIKE none", steps(x, HASH, STRIKE, 25), 4);
    DUE.is("HASH ROOM then", x.sum(HASH, 5), 16);
    hashGrows();
  }

  private static void hashGrows() {
    WhichShelf x = put(0, 8, 16, 24, 1, 9, 17, 25, 0, 8, 16, 24, 1, 9, 17, 25);
    DUE.is("HASH ROOM of 16", x.sum(HASH, 5), 40);
    DUE.is("HASH PUT of the 17th", steps(x, HASH, PUT, 32), 17);
    DUE.is("HASH ROOM of 17", x.sum(HASH, 5), 50);
    // put anew at the heads, each chain is turned round; 32 comes to the head of chain 0
    DUE.row("HASH put anew", keysOn(x, HASH), 32, 0, 16, 0, 16, 1, 17, 1, 17, 8, 24, 8, 24, 9, 25, 9, 25);
    x.call(STRIKE, 32);
    DUE.is("HASH does not shrink", x.sum(HASH, 5), 48);
    WhichShelf full = new WhichShelf();
    full.draw(3, 100, 64, 0);
    full.draw(4, 100, 64, 0);
    DUE.is("HASH ROOM of 200", full.sum(HASH, 5), 528);
    DUE.is("HASH PUT of the 129th", full.cost(HASH, 128), 129);
  }

  private static void costOfTree() {
    WhichShelf x = put(20, 10, 30, 25, 40, 27, 10);
    DUE.is("TREE PUT root", x.cost(TREE, 0), 1);
    DUE.is("TREE PUT leaf", x.cost(TREE, 5), 4);
    DUE.is("TREE PUT there", x.cost(TREE, 6), 2);
    DUE.is("TREE ROOM", x.sum(TREE, 5), 24);
    DUE.is("TREE ASK", steps(x, TREE, ASK, 25), 3);
    DUE.is("TREE ASK none", steps(x, TREE, ASK, 26), 4);
    DUE.is("TREE MANY", steps(x, TREE, MANY, 10), 2);
    DUE.is("TREE NEXT stops at KEY", steps(x, TREE, NEXT, 30), 2);
    DUE.is("TREE NEXT to where it would be", steps(x, TREE, NEXT, 26), 4);
    DUE.is("TREE LEAST", steps(x, TREE, LEAST, 0), 2);
    DUE.is("TREE WALK", steps(x, TREE, WALK, 0), 6);
    DUE.is("TREE FIRST", steps(x, TREE, FIRST, 0), 0);
    DUE.is("TREE STRIKE none", steps(x, TREE, STRIKE, 5), 2);
    DUE.is("TREE STRIKE one of two", steps(x, TREE, STRIKE, 10), 2);
    DUE.is("TREE ROOM as it was", x.sum(TREE, 5), 24);
    // 25 (with 27 on its right) comes in the place of 20: 30 and 25 looked at
    DUE.is("TREE STRIKE root with both children", steps(x, TREE, STRIKE, 20), 3);
    DUE.is("TREE ROOM then", x.sum(TREE, 5), 20);
    DUE.is("TREE new root", steps(x, TREE, ASK, 25), 1);
    DUE.is("TREE 27 in its place", steps(x, TREE, ASK, 27), 3);
    // 27 on the left of 30, 40 on its right: 40 comes in its place
    DUE.is("TREE STRIKE whose right child is the least", steps(x, TREE, STRIKE, 30), 3);
    DUE.is("TREE 40 there", steps(x, TREE, ASK, 40), 2);
    DUE.is("TREE 27 below 40", steps(x, TREE, ASK, 27), 3);
    DUE.is("TREE STRIKE without a right child", steps(x, TREE, STRIKE, 40), 2);
    DUE.is("TREE 27 there", steps(x, TREE, ASK, 27), 2);
    DUE.is("TREE STRIKE a leaf", steps(x, TREE, STRIKE, 10), 2);
    DUE.is("TREE STRIKE root without a left child", steps(x, TREE, STRIKE, 25), 1);
    DUE.is("TREE 27 the root", steps(x, TREE, ASK, 27), 1);
    DUE.is("TREE STRIKE the last", steps(x, TREE, STRIKE, 27), 1);
    DUE.is("TREE nothing left", x.sum(TREE, 5), 0);
    DUE.is("TREE LEAST of none", steps(x, TREE, LEAST, 0), 0);
    DUE.is("TREE greatest ROOM", x.sum(TREE, 3), 24);
    WhichShelf many = put(20, 10, 30, 30, 30);
    many.call(STRIKE, 20);
    DUE.row("TREE how many come along", keysOn(many, TREE), 10, 30, 30, 30);
  }

  private static void costOfHeap() {
    WhichShelf x = put(40, 30, 20);
    DUE.is("HEAP PUT up one", x.cost(HEAP, 1), 2);
    DUE.row("HEAP", keysOn(x, HEAP), 20, 40, 30);
    DUE.is("HEAP PUT up two", steps(x, HEAP, PUT, 10), 3);
    DUE.row("HEAP then", keysOn(x, HEAP), 10, 20, 30, 40);
    DUE.is("HEAP PUT when full, like its parent", steps(x, HEAP, PUT, 20), 5);
    DUE.row("HEAP of five", keysOn(x, HEAP), 10, 20, 30, 40, 20);
    DUE.is("HEAP ASK", steps(x, HEAP, ASK, 20), 2);
    DUE.is("HEAP ASK none", steps(x, HEAP, ASK, 21), 5);
    DUE.is("HEAP LEAST", steps(x, HEAP, LEAST, 0), 1);
    DUE.is("HEAP NEXT", steps(x, HEAP, NEXT, 0), 5);
    DUE.is("HEAP MANY", steps(x, HEAP, MANY, 20), 5);
    DUE.is("HEAP WALK", steps(x, HEAP, WALK, 0), 5);
    DUE.is("HEAP FIRST", steps(x, HEAP, FIRST, 0), 0);
    DUE.is("HEAP STRIKE none", steps(x, HEAP, STRIKE, 21), 5);
    // 1 to find 10; 20 from the end stays at the root, as its child is no less
    DUE.is("HEAP STRIKE without a move", steps(x, HEAP, STRIKE, 10), 1);
    DUE.row("HEAP of four", keysOn(x, HEAP), 20, 20, 30, 40);
    DUE.is("HEAP STRIKE the last", steps(x, HEAP, STRIKE, 40), 4);
    DUE.is("HEAP ROOM stays", x.sum(HEAP, 5), 8);
    DUE.is("HEAP LEAST of none", steps(new WhichShelf(), HEAP, LEAST, 0), 1);
    heapMoves();
  }

  private static void heapMoves() {
    WhichShelf up = put(1, 20, 2, 30, 25, 3);
    up.call(STRIKE, 63);
    // 3 from the end comes in the place of 30 and goes above 20
    DUE.is("HEAP STRIKE with a move up", steps(up, HEAP, STRIKE, 30), 5);
    DUE.row("HEAP with a move up", keysOn(up, HEAP), 1, 3, 2, 20, 25);
    WhichShelf equal = put(1, 5, 5, 9, 8);
    // 8 at the root goes down to the left of the equal ones, then no child of it is less
    DUE.is("HEAP STRIKE with equal children", steps(equal, HEAP, STRIKE, 1), 2);
    DUE.row("HEAP with equal children", keysOn(equal, HEAP), 5, 8, 5, 9);
    WhichShelf deep = put(1, 3, 2, 7, 5, 6, 4, 9, 8, 10);
    // 10 goes down by 2 and 4: places 2 and 6
    DUE.is("HEAP STRIKE with two moves down", steps(deep, HEAP, STRIKE, 1), 3);
    DUE.row("HEAP with two moves down", keysOn(deep, HEAP), 2, 3, 4, 7, 5, 6, 10, 9, 8);
    // 8 comes in the place of 3 and goes down by 5, where it has no child
    DUE.is("HEAP STRIKE in the midst", steps(deep, HEAP, STRIKE, 3), 3);
    DUE.row("HEAP struck in the midst", keysOn(deep, HEAP), 2, 5, 4, 7, 8, 6, 10, 9);
    WhichShelf right = put(1, 7, 5, 9, 8, 6);
    DUE.is("HEAP STRIKE with a lesser right child", steps(right, HEAP, STRIKE, 1), 2);
    DUE.row("HEAP with a lesser right child", keysOn(right, HEAP), 5, 7, 6, 9, 8);
  }

  private static void costOfBits() {
    WhichShelf x = put(5, 5, 60);
    DUE.is("BITS PUT", x.cost(BITS, 2), 1);
    DUE.is("BITS ASK", steps(x, BITS, ASK, 7), 1);
    DUE.is("BITS MANY", steps(x, BITS, MANY, 5), 1);
    DUE.is("BITS WALK", steps(x, BITS, WALK, 0), 64);
    DUE.is("BITS LEAST", steps(x, BITS, LEAST, 9), 6);
    DUE.is("BITS NEXT", steps(x, BITS, NEXT, 6), 55);
    DUE.is("BITS NEXT itself", steps(x, BITS, NEXT, 60), 1);
    DUE.is("BITS NEXT to the last", steps(x, BITS, NEXT, 61), 3);
    DUE.is("BITS NEXT at the last", steps(x, BITS, NEXT, 63), 1);
    DUE.is("BITS FIRST", steps(x, BITS, FIRST, 0), 0);
    DUE.is("BITS STRIKE", steps(x, BITS, STRIKE, 5), 1);
    DUE.is("BITS STRIKE none", steps(x, BITS, STRIKE, 0), 1);
    DUE.row("BITS then", keysOn(x, BITS), 5, 60);
    DUE.is("BITS LEAST of none", steps(new WhichShelf(), BITS, LEAST, 0), 64);
    DUE.is("BITS ROOM", x.sum(BITS, 3), 64);
  }

  private static void costOfNone() {
    WhichShelf x = put(5);
    DUE.is("cost on shelf -1", x.cost(-1, 0), NONE);
    DUE.is("cost on shelf 6", x.cost(6, 0), NONE);
    DUE.is("cost of call -1", x.cost(0, -1), NONE);
    DUE.is("cost of call 1", x.cost(0, 1), NONE);
  }

  // Promise 10
  private static void key() {
    WhichShelf x = put(12, 4, 4, 3);
    DUE.row("key ROW", keysOn(x, ROW), 12, 4, 4, 3);
    DUE.row("key SORTED", keysOn(x, SORTED), 3, 4, 4, 12);
    DUE.row("key HASH", keysOn(x, HASH), 3, 4, 4, 12);
    DUE.row("key TREE", keysOn(x, TREE), 3, 4, 4, 12);
    DUE.row("key HEAP", keysOn(x, HEAP), 3, 4, 4, 12);
    DUE.row("key BITS", keysOn(x, BITS), 3, 4, 4, 12);
    for (int shelf = 0; shelf < 6; shelf++) {
      DUE.is("key at -1", x.key(shelf, -1), NONE);
      DUE.is("key at n", x.key(shelf, 4), NONE);
      DUE.is("key far out", x.key(shelf, Integer.MAX_VALUE), NONE);
    }
    DUE.is("key on shelf -1", x.key(-1, 0), NONE);
    DUE.is("key on shelf 6", x.key(6, 0), NONE);
    x.call(STRIKE, 4);
    DUE.row("key ROW with one struck", keysOn(x, ROW), 12, 4, 3);
  }

  // Promise 11
  private static void sum() {
    WhichShelf x = put(1, 2, 3, 4, 5);
    x.call(STRIKE, 1);
    x.call(STRIKE, 2);
    x.call(STRIKE, 3);
    // ROW: 1 1 1 1 5, 5 4 3
    DUE.is("all steps", x.sum(ROW, 0), 21);
    DUE.is("worst steps", x.sum(ROW, 1), 5);
    DUE.is("first such call", x.sum(ROW, 2), 4);
    DUE.is("greatest ROOM of the HASH", x.sum(HASH, 3), 18);
    DUE.is("ROOM of the HASH now", x.sum(HASH, 5), 12);
    DUE.is("greatest ROOM of the TREE", x.sum(TREE, 3), 20);
    DUE.is("ROOM of the TREE now", x.sum(TREE, 5), 8);
    DUE.is("what 6", x.sum(ROW, 6), NONE);
    DUE.is("what -1", x.sum(ROW, -1), NONE);
    DUE.is("shelf -1", x.sum(-1, 0), NONE);
    DUE.is("shelf 6", x.sum(6, 4), NONE);
    WhichShelf free = new WhichShelf();
    free.call(FIRST, 0);
    DUE.is("worst steps of a call without steps", free.sum(HEAP, 1), 0);
    DUE.is("the call without steps", free.sum(HEAP, 2), 0);
  }

  // Promise 12
  private static void best() {
    WhichShelf x = new WhichShelf();
    DUE.is("best without calls", x.best(-1, 0), ROW);
    DUE.is("best without calls, ROOM below 0", x.best(99, -1), NONE);
    x = put(1, 2, 3, 4, 5);
    // steps: ROW 9, HASH 5, BITS 5; ROOM: ROW 8, HASH 18, BITS 64
    DUE.is("of equal ones the least", x.best(1000, 1000), HASH);
    DUE.is("with ROOM for the HASH", x.best(1000, 18), HASH);
    DUE.is("without ROOM for the HASH", x.best(1000, 17), ROW);
    DUE.is("with ROOM for a ROW", x.best(5, 8), ROW);
    DUE.is("with worst below a ROW's", x.best(4, 8), NONE);
    DUE.is("worst of 1", x.best(1, 1000), HASH);
    DUE.is("worst of 0", x.best(0, 1000), NONE);
    DUE.is("least bounds", x.best(Integer.MIN_VALUE, Integer.MIN_VALUE), NONE);
    x.law(1, true);
    DUE.is("OFFERED alone", x.best(Integer.MAX_VALUE, Integer.MAX_VALUE), BITS);
    x.law(2, true);
    DUE.is("none OFFERED", x.best(1000, 1000), NONE);
  }

  // Promise 13
  private static void drift() {
    WhichShelf x = put(1, 2, 3, 4, 5);
    DUE.is("drift of the last", x.drift(ROW, 1, 0), HASH);
    DUE.is("saved by the last", x.drift(ROW, 1, 1), 80);
    DUE.is("saved by all", x.drift(ROW, 5, 1), 44);
    DUE.is("saved by itself", x.drift(HASH, 5, 1), 0);
    x.law(2, true);
    DUE.is("with the ROW alone", x.drift(HASH, 5, 0), ROW);
    DUE.is("saved below 0", x.drift(HASH, 5, 1), -80);
    DUE.is("n 0", x.drift(ROW, 0, 0), NONE);
    DUE.is("n -1", x.drift(ROW, -1, 0), NONE);
    DUE.is("n 6", x.drift(ROW, 6, 0), NONE);
    DUE.is("shelf -1", x.drift(-1, 1, 0), NONE);
    DUE.is("shelf 6", x.drift(6, 1, 0), NONE);
    DUE.is("what 2", x.drift(ROW, 1, 2), NONE);
    DUE.is("what -1", x.drift(ROW, 1, -1), NONE);
    x.law(1, true);
    DUE.is("none OFFERED", x.drift(ROW, 1, 0), NONE);
    DUE.is("none OFFERED to save", x.drift(ROW, 1, 1), NONE);
    WhichShelf free = new WhichShelf();
    free.call(FIRST, 0);
    DUE.is("of no steps", free.drift(HEAP, 1, 1), 0);
    WhichShelf cut = put(1, 2, 3);
    cut.law(2, true);
    cut.call(ASK, 63);
    // The last three: ROW 1 1 3, SORTED 2 2 2, BITS 1 1 1
    DUE.is("cut toward 0", cut.drift(SORTED, 3, 1), 16);
    DUE.is("cut toward 0 below it", cut.drift(BITS, 3, 1), -66);
  }

  // Promises 14 and 15
  private static void stages() {
    WhichShelf x = new WhichShelf();
    DUE.is("sum without calls", x.stages(), 0);
    DUE.is("stage without calls", x.stage(0), NONE);
    x.law(1, true);
    x.law(2, true);
    DUE.is("none OFFERED, without calls", x.stages(), NONE);
    x.law(1, false);
    x.law(2, false);
    x = put(0, 1, 2, 3);
    for (int i = 0; i < 20; i++) {
      x.call(WALK, 0);
    }
    // A WALK is 4 on ROW, SORTED, TREE, HEAP; four PUTs are 4 on a ROW
    DUE.is("all on the ROW", x.stages(), 84);
    DUE.is("no moves", x.count(3), 0);
    DUE.is("at first", x.stage(0), ROW);
    DUE.is("at last", x.stage(23), ROW);
    DUE.is("call -1", x.stage(-1), NONE);
    DUE.is("call 24", x.stage(24), NONE);
    for (int i = 0; i < 30; i++) {
      x.call(LEAST, 0);
    }
    // LEAST is 1 on SORTED, HEAP and BITS, 4 on the ROW; four PUTs are 4 on a HEAP as well
    DUE.is("all on the HEAP", x.stages(), 114);
    DUE.is("HEAP at first", x.stage(0), HEAP);
    x.law(2, true);
    DUE.is("the ROW alone", x.stages(), 204);
    DUE.is("its stage", x.stage(53), ROW);
    x.law(1, true);
    DUE.is("none OFFERED", x.stages(), NONE);
    DUE.is("stage with none OFFERED", x.stage(0), NONE);
    DUE.is("moves with none OFFERED", x.count(3), 0);
    movesAtTheirPrice();
  }

  private static void movesAtTheirPrice() {
    WhichShelf x = put(0, 8, 16, 24, 32, 40);
    for (int i = 0; i < 10; i++) {
      x.call(WALK, 0);
    }
    for (int i = 0; i < 10; i++) {
      x.call(ASK, 40);
    }
    x.set(0, 3);
    x.set(1, 1);
    // PUT, WALK, ASK: ROW 10, 60, 60; BITS 6, 640, 10. To have fewer steps for the PUTs is not worth a move
    DUE.is("one move", x.stages(), 10 + 60 + 9 + 10);
    DUE.is("moves", x.count(3), 1);
    DUE.is("ahead of it", x.stage(15), ROW);
    DUE.is("behind it", x.stage(16), BITS);
    x.set(0, 0);
    x.set(1, 1000);
    DUE.is("EACH too dear", x.count(3), 0);
    x.set(1, 0);
    x.set(0, 1000);
    DUE.is("FEE too dear", x.count(3), 0);
    x.drop(x.count(0));
    DUE.is("nothing left", x.stages(), 0);
    DUE.is("no moves left", x.count(3), 0);
  }

  private static void stagesOfEqualSums() {
    WhichShelf x = put(5);
    // The first PUT is 1 on each
    DUE.is("the least shelf", x.stage(0), ROW);
    x.set(0, 0);
    x.set(1, 0);
    x.call(LEAST, 0);
    DUE.is("sum of two", x.stages(), 2);
    DUE.is("fewest moves", x.count(3), 0);
    WhichShelf y = put(0, 1);
    y.set(0, 0);
    y.set(1, 0);
    y.call(WALK, 0);
    y.call(ASK, 1);
    y.call(WALK, 0);
    // ROW 1 1 2 2 2; only BITS has ASK at 1, with WALK at 64: two moves save one step
    DUE.is("two moves for a step", y.stages(), 7);
    DUE.is("their count", y.count(3), 2);
    DUE.is("least at first", y.stage(0), ROW);
    DUE.is("least in the midst", y.stage(3), BITS);
    DUE.is("least at last", y.stage(4), ROW);
  }

  // Promise 16
  private static void count() {
    WhichShelf x = put(1, 2);
    DUE.is("calls", x.count(0), 2);
    x.set(0, 77);
    x.set(1, 88);
    DUE.is("FEE", x.count(1), 77);
    DUE.is("EACH", x.count(2), 88);
    DUE.is("no laws", x.count(4), 0);
    x.law(1, true);
    DUE.is("law 1", x.count(4), 2);
    x.law(2, true);
    DUE.is("laws 1, 2", x.count(4), 6);
    x.call(FIRST, 0);
    DUE.is("laws 1, 2 and FIRST", x.count(4), 14);
    x.law(1, false);
    DUE.is("law 2 and FIRST", x.count(4), 12);
    x.drop(1);
    DUE.is("law 2", x.count(4), 4);
    DUE.is("what 5", x.count(5), NONE);
    DUE.is("what -1", x.count(-1), NONE);
  }

  private static void refusedCallsChangeNothing() {
    WhichShelf x = put(1, 2, 3);
    x.call(8, 1);
    x.call(0, 64);
    x.draw(1, 101, 64, 255);
    x.draw(1, 10, 65, 255);
    x.drop(4);
    x.drop(-1);
    x.law(3, true);
    x.set(0, 1001);
    x.set(2, 5);
    DUE.row("counts", new int[] {x.count(0), x.count(1), x.count(2), x.count(4)}, 3, 10, 2, 0);
    DUE.row("keys", keysOn(x, ROW), 1, 2, 3);
    DUE.is("sum", x.stages(), 3);
  }
}
