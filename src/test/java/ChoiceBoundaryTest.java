/** Promises 11 to 16, with LAWS and STAGES: a test of its own for each sentence that names a boundary. */
public final class ChoiceBoundaryTest extends Trial {
  private static final Due DUE = new Due("ChoiceBoundaryTest");

  public static void main(String[] args) {
    offers();
    sumsOfShelves();
    bests();
    drifts();
    stageSums();
    stageChoices();
    stageNumbers();
    counts();
    DUE.end();
  }

  private static WhichShelf withBothLaws(WhichShelf x) {
    x.law(1, true);
    x.law(2, true);
    return x;
  }

  private static WhichShelf priced(WhichShelf x, int fee, int each) {
    x.set(0, fee);
    x.set(1, each);
    return x;
  }

  // ---- LAWS, as sum() and the choices see them

  private static void offers() {
    offeredByLawOne();
    offeredByLawTwo();
    offeredWithFirst();
    offeredByAllThese();
  }

  private static void offeredByLawOne() {
    DUE.of("11: LAWS: 1 walks go up (SORTED, TREE, BITS alone)");
    WhichShelf x = new WhichShelf();
    x.law(1, true);
    DUE.row("without CALLS", offered(x), 0, 1, 0, 1, 0, 1);
    x.call(PUT, 1);
    DUE.row("without a WALK", offered(x), 0, 1, 0, 1, 0, 1);
    x.call(WALK, 0);
    DUE.row("with a WALK", offered(x), 0, 1, 0, 1, 0, 1);
    x.law(1, false);
    DUE.row("no more", offered(x), 1, 1, 1, 1, 1, 1);
  }

  private static void offeredByLawTwo() {
    DUE.of("11: LAWS: .. 2 walks go as they came (ROW alone)");
    WhichShelf x = new WhichShelf();
    x.law(2, true);
    DUE.row("without CALLS", offered(x), 1, 0, 0, 0, 0, 0);
    x.call(WALK, 0);
    DUE.row("with a WALK", offered(x), 1, 0, 0, 0, 0, 0);
    x.law(2, false);
    DUE.row("no more", offered(x), 1, 1, 1, 1, 1, 1);
  }

  private static void offeredWithFirst() {
    DUE.of("11: a TRACE with FIRST needs the ROW");
    WhichShelf x = new WhichShelf();
    x.call(FIRST, 0);
    DUE.row("as the only CALL", offered(x), 1, 0, 0, 0, 0, 0);
    x.call(PUT, 1);
    DUE.row("ahead of another CALL", offered(x), 1, 0, 0, 0, 0, 0);
    WhichShelf last = full();
    last.drop(1);
    DUE.row("199 without it", offered(last), 1, 1, 1, 1, 1, 1);
    last.call(FIRST, 0);
    DUE.row("as the 200th CALL", offered(last), 1, 0, 0, 0, 0, 0);
  }

  private static void offeredByAllThese() {
    DUE.of("11: OFFERED: SHELVES that keep all these");
    WhichShelf x = withBothLaws(new WhichShelf());
    DUE.row("both LAWS", offered(x), 0, 0, 0, 0, 0, 0);
    WhichShelf first = new WhichShelf();
    first.call(FIRST, 0);
    first.law(2, true);
    DUE.row("LAW 2 and FIRST", offered(first), 1, 0, 0, 0, 0, 0);
    first.law(2, false);
    first.law(1, true);
    DUE.row("LAW 1 and FIRST", offered(first), 0, 0, 0, 0, 0, 0);
  }

  // ---- Promise 11

  private static void sumsOfShelves() {
    allSteps();
    worstSteps();
    worstCallWithoutCalls();
    worstCallIsTheFirst();
    greatestRoomWithoutCalls();
    greatestRoomBehindAnyCall();
    roomAsAtFirst();
    roomNow();
    noSuchSum();
  }

  private static void allSteps() {
    DUE.of("11: 0: all steps");
    DUE.row("without CALLS", sums(new WhichShelf(), 0), 0, 0, 0, 0, 0, 0);
    DUE.row("of one CALL", sums(put(5), 0), 1, 1, 1, 1, 1, 1);
    // TREE: 1 and 199 likes; ROW, HEAP: growing by 4 + .. + 128; HASH: by 16 + .. + 128
    WhichShelf x = full();
    DUE.is("ROW of 200", x.sum(ROW, 0), 200 + 252);
    DUE.is("HASH of 200", x.sum(HASH, 0), 200 + 240);
    DUE.is("TREE of 200", x.sum(TREE, 0), 200);
    DUE.is("HEAP of 200", x.sum(HEAP, 0), 200 + 252);
    DUE.is("BITS of 200", x.sum(BITS, 0), 200);
  }

  private static void worstSteps() {
    DUE.of("11: 1: those of the worst CALL");
    DUE.row("without CALLS", sums(new WhichShelf(), 1), 0, 0, 0, 0, 0, 0);
    WhichShelf x = new WhichShelf();
    x.call(LEAST, 0);
    DUE.row("of one CALL", sums(x, 1), 0, 1, 8, 0, 1, 64);
    DUE.is("the worst is the last", put(1, 2, 3, 4, 5).sum(ROW, 1), 5);
    DUE.is("the worst of 200", full().sum(ROW, 1), 129);
  }

  private static void worstCallWithoutCalls() {
    DUE.of("11: 2: .. (NONE without CALLS)");
    DUE.row("of a new object", sums(new WhichShelf(), 2), NONE, NONE, NONE, NONE, NONE, NONE);
    WhichShelf x = put(1, 2, 3);
    x.drop(3);
    DUE.row("when all are gone", sums(x, 2), NONE, NONE, NONE, NONE, NONE, NONE);
  }

  private static void worstCallIsTheFirst() {
    DUE.of("11: 2: the first such CALL");
    DUE.row("of equal ones", sums(put(1), 2), 0, 0, 0, 0, 0, 0);
    DUE.is("ROW: 1 1 1", put(1, 2, 3).sum(ROW, 2), 0);
    DUE.is("TREE: 1 2 3", put(1, 2, 3).sum(TREE, 2), 2);
    DUE.is("TREE: 1 2 2", put(2, 1, 3).sum(TREE, 2), 1);
    WhichShelf x = new WhichShelf();
    lay(x, FIRST, 0, 0);
    DUE.is("HEAP: 0 0", x.sum(HEAP, 2), 0);
    DUE.is("the worst of 200", full().sum(ROW, 2), 128);
  }

  private static void greatestRoomWithoutCalls() {
    DUE.of("11: 3: .. (0 without)");
    DUE.row("of a new object", sums(new WhichShelf(), 3), 0, 0, 0, 0, 0, 0);
    WhichShelf x = put(1, 2, 3, 4, 5);
    x.drop(5);
    DUE.row("when all are gone", sums(x, 3), 0, 0, 0, 0, 0, 0);
  }

  private static void greatestRoomBehindAnyCall() {
    DUE.of("11: 3: the greatest ROOM behind any CALL");
    DUE.row("behind the only CALL", sums(put(1), 3), 4, 4, 10, 4, 4, 64);
    WhichShelf x = put(1, 2, 3, 4, 5);
    lay(x, STRIKE, 1, 2, 3, 4, 5);
    DUE.row("behind the fifth of ten", sums(x, 3), 8, 8, 18, 20, 8, 64);
    x.drop(6);
    DUE.row("behind the fourth, as the fifth is gone", sums(x, 3), 4, 4, 16, 16, 4, 64);
  }

  private static void roomAsAtFirst() {
    DUE.of("11: 5: ROOM now (as at first, without CALLS)");
    DUE.row("of a new object", roomsNow(new WhichShelf()), 4, 4, 8, 0, 4, 64);
    WhichShelf x = full();
    x.drop(200);
    DUE.row("when all are gone", roomsNow(x), 4, 4, 8, 0, 4, 64);
  }

  private static void roomNow() {
    DUE.of("11: 5: ROOM now");
    WhichShelf x = put(1, 2, 3, 4, 5);
    DUE.row("of five", roomsNow(x), 8, 8, 18, 20, 8, 64);
    lay(x, STRIKE, 1, 2, 3, 4, 5);
    DUE.row("when all are struck", roomsNow(x), 8, 8, 8, 0, 8, 64);
  }

  private static void noSuchSum() {
    DUE.of("11: NONE: none such, another what");
    WhichShelf x = put(5, 3);
    for (int shelf : new int[] {-1, 6, LOWEST, HIGHEST}) {
      for (int what = 0; what < 6; what++) {
        DUE.is("SHELF " + shelf + ", what " + what, x.sum(shelf, what), NONE);
      }
    }
    for (int what : new int[] {-1, 6, LOWEST, HIGHEST}) {
      for (int shelf = 0; shelf < 6; shelf++) {
        DUE.is("SHELF " + shelf + ", what " + what, x.sum(shelf, what), NONE);
      }
    }
  }

  // ---- Promise 12

  private static void bests() {
    bestFromTheFirstCallOn();
    bestAtItsWorst();
    bestAtItsRoom();
    bestByGreatestRoom();
    bestOfEqualOnes();
    bestWithoutCalls();
    bestOfOffered();
    bestOfNone();
  }

  private static void bestFromTheFirstCallOn() {
    DUE.of("12: the one with the fewest steps (of the first CALL too)");
    WhichShelf x = new WhichShelf();
    x.call(LEAST, 0);
    lay(x, PUT, 1, 2, 3);
    lay(x, ASK, 3, 3);
    // ROW: 0, 3, 6; BITS: 64, 3, 2; HASH: 8, 3, 4
    DUE.is("with a dear first CALL", x.best(HIGHEST, HIGHEST), ROW);
    DUE.is("of late it is another", x.drift(ROW, 5, 0), BITS);
  }

  private static void bestAtItsWorst() {
    DUE.of("12: none of whose CALLS has more than worst steps");
    // ROOM 8 leaves ROW (9 steps, worst 5), SORTED (15, 7) and HEAP (9, 5)
    WhichShelf x = put(1, 2, 3, 4, 5);
    DUE.is("just as many", x.best(5, 8), ROW);
    DUE.is("one more", x.best(4, 8), NONE);
    DUE.is("HASH and BITS have 1", x.best(1, HIGHEST), HASH);
    DUE.is("all have more than 0", x.best(0, HIGHEST), NONE);
    WhichShelf free = new WhichShelf();
    free.call(LEAST, 0);
    DUE.is("ROW and TREE have 0", free.best(0, HIGHEST), ROW);
    DUE.is("none has -1", free.best(-1, HIGHEST), NONE);
    DUE.is("lowest", free.best(LOWEST, HIGHEST), NONE);
  }

  private static void bestAtItsRoom() {
    DUE.of("12: whose greatest ROOM is at most room");
    WhichShelf x = put(1, 2, 3, 4, 5);
    DUE.is("just the HASH's", x.best(HIGHEST, 18), HASH);
    DUE.is("one less", x.best(HIGHEST, 17), ROW);
    DUE.is("just the ROW's", x.best(HIGHEST, 8), ROW);
    DUE.is("one less", x.best(HIGHEST, 7), NONE);
    WhichShelf free = new WhichShelf();
    free.call(LEAST, 0);
    DUE.is("the TREE has 0", free.best(HIGHEST, 0), TREE);
    DUE.is("just below the ROW's", free.best(HIGHEST, 3), TREE);
    DUE.is("none has -1", free.best(HIGHEST, -1), NONE);
    DUE.is("lowest", free.best(HIGHEST, LOWEST), NONE);
  }

  private static void bestByGreatestRoom() {
    DUE.of("12: whose greatest ROOM (not ROOM now) is at most room");
    WhichShelf x = put(1, 2, 3);
    lay(x, STRIKE, 1, 2, 3);
    x.law(1, true);
    // TREE: 1 2 3 1 1 1, ROOM 12; SORTED: 1 2 2 5 4 2, ROOM 4; BITS: 64
    DUE.is("room for the TREE at its greatest", x.best(HIGHEST, 12), TREE);
    DUE.is("one less, though it has none now", x.best(HIGHEST, 11), SORTED);
  }

  private static void bestOfEqualOnes() {
    DUE.of("12: the one with the fewest steps (of equal ones the least)");
    DUE.is("all are equal", put(5).best(HIGHEST, HIGHEST), ROW);
    DUE.is("HASH and BITS are equal", put(1, 2, 3, 4, 5).best(HIGHEST, HIGHEST), HASH);
    DUE.is("ROW and HEAP are equal", put(1, 2, 3, 4, 5).best(5, 8), ROW);
    DUE.is("the greatest SHELF alone", fewestOnBits().best(HIGHEST, HIGHEST), BITS);
    WhichShelf x = put(63, 63);
    x.call(ASK, 63);
    // HASH: 1 1 2; ROW, TREE, HEAP, BITS: 1 1 1
    DUE.is("ROW, TREE, HEAP and BITS are equal", x.best(HIGHEST, HIGHEST), ROW);
    x.law(1, true);
    DUE.is("TREE and BITS are equal", x.best(HIGHEST, HIGHEST), TREE);
  }

  /** ROW 1 1 2, HASH 1 1 2, HEAP 1 1 2, TREE 1 2 2, BITS 1 1 1. */
  private static WhichShelf fewestOnBits() {
    WhichShelf x = put(5, 6);
    x.call(ASK, 6);
    return x;
  }

  private static void bestWithoutCalls() {
    DUE.of("12: none of whose CALLS .. (without CALLS)");
    WhichShelf x = new WhichShelf();
    DUE.is("any worst, ROOM of 0", x.best(LOWEST, 0), ROW);
    DUE.is("ROOM of -1", x.best(HIGHEST, -1), NONE);
    x.law(1, true);
    DUE.is("the least OFFERED", x.best(-1, 0), SORTED);
    DUE.is("none OFFERED", withBothLaws(x).best(HIGHEST, HIGHEST), NONE);
  }

  private static void bestOfOffered() {
    DUE.of("12: Of OFFERED SHELVES");
    WhichShelf x = put(1, 2, 3, 4, 5);
    x.law(1, true);
    DUE.is("LAW 1: BITS, not HASH", x.best(HIGHEST, HIGHEST), BITS);
    x.law(1, false);
    x.law(2, true);
    DUE.is("LAW 2: ROW, not HASH", x.best(HIGHEST, HIGHEST), ROW);
    x.law(2, false);
    x.call(FIRST, 0);
    DUE.is("FIRST: ROW, not HASH", x.best(HIGHEST, HIGHEST), ROW);
  }

  private static void bestOfNone() {
    DUE.of("12: NONE: there is none");
    DUE.is("none OFFERED", withBothLaws(put(1, 2)).best(HIGHEST, HIGHEST), NONE);
    WhichShelf x = put(1, 2, 3, 4, 5);
    x.law(2, true);
    DUE.is("the only one OFFERED has more steps", x.best(4, HIGHEST), NONE);
    DUE.is("the only one OFFERED has more ROOM", x.best(HIGHEST, 7), NONE);
  }

  // ---- Promise 13

  private static void drifts() {
    driftOfOneToAll();
    driftOfEqualOnes();
    driftIsCutTowardZero();
    driftBelowZero();
    driftOfNoSteps();
    driftOfAll();
    noSuchDrift();
    driftOfNoneOffered();
    driftOfAnotherWhat();
  }

  private static void driftOfOneToAll() {
    DUE.of("13: Of the last n CALLS (1 .. all)");
    WhichShelf x = put(1, 2, 3, 4, 5);
    // ROW: 1 1 1 1 5; HASH: 1 1 1 1 1; TREE: 1 2 3 4 5
    DUE.is("n 1", x.drift(ROW, 1, 1), 80);
    DUE.is("n 2", x.drift(ROW, 2, 1), 66);
    DUE.is("all", x.drift(ROW, 5, 1), 44);
    DUE.is("n 1 of the TREE", x.drift(TREE, 1, 1), 80);
    for (int n : new int[] {0, -1, 6, 200, LOWEST, HIGHEST}) {
      DUE.is("n " + n + ", what 0", x.drift(ROW, n, 0), NONE);
      DUE.is("n " + n + ", what 1", x.drift(ROW, n, 1), NONE);
    }
    DUE.is("n 0 without CALLS", new WhichShelf().drift(ROW, 0, 0), NONE);
    DUE.is("n 1 without CALLS", new WhichShelf().drift(ROW, 1, 0), NONE);
    DUE.is("200 of 200", full().drift(ROW, 200, 0), TREE);
    DUE.is("201 of 200", full().drift(ROW, 201, 0), NONE);
  }

  private static void driftOfEqualOnes() {
    DUE.of("13: which (of equal ones the least)");
    WhichShelf x = put(1, 2, 3, 4, 5);
    DUE.is("ROW, HASH, HEAP and BITS on the first", put(1).drift(BITS, 1, 0), ROW);
    DUE.is("HASH and BITS on the last", x.drift(ROW, 1, 0), HASH);
    DUE.is("whichever SHELF is asked of", x.drift(BITS, 1, 0), HASH);
    x.law(1, true);
    DUE.is("the greatest SHELF alone", x.drift(ROW, 1, 0), BITS);
  }

  private static void driftIsCutTowardZero() {
    DUE.of("13: cut toward 0");
    WhichShelf x = put(1, 2, 3);
    x.call(ASK, 63);
    x.law(2, true);
    // The last three: ROW 1 1 3, SORTED 2 2 2, BITS 1 1 1
    DUE.is("one of six: 16.7", x.drift(SORTED, 3, 1), 16);
    DUE.is("two more than three: -66.7", x.drift(BITS, 3, 1), -66);
  }

  private static void driftBelowZero() {
    DUE.of("13: below 0 where a SHELF that is not OFFERED had fewer");
    WhichShelf x = put(1, 2, 3, 4, 5);
    DUE.is("0 where it is OFFERED and has the fewest", x.drift(HASH, 5, 1), 0);
    x.law(2, true);
    DUE.is("four more than five", x.drift(HASH, 5, 1), -80);
    DUE.is("four more than one", x.drift(HASH, 1, 1), -400);
    DUE.is("four more than four", x.drift(HASH, 4, 1), -100);
    DUE.is("as many, though not OFFERED", x.drift(HEAP, 5, 1), 0);
    DUE.is("more, though not OFFERED", x.drift(SORTED, 5, 1), 40);
  }

  private static void driftOfNoSteps() {
    DUE.of("13: 0 of no steps");
    WhichShelf x = put(5);
    x.call(FIRST, 0);
    DUE.is("the ROW has 1, the HEAP none", x.drift(HEAP, 1, 1), 0);
    DUE.is("the ROW has 2, the HEAP 1", x.drift(HEAP, 2, 1), -100);
    WhichShelf none = new WhichShelf();
    none.call(LEAST, 0);
    DUE.is("the best has none either", none.drift(ROW, 1, 1), 0);
  }

  private static void driftOfAll() {
    DUE.of("13: of a hundred steps .. how many it would have saved (all of them)");
    WhichShelf x = new WhichShelf();
    x.call(LEAST, 0);
    DUE.is("64 of 64", x.drift(BITS, 1, 1), 100);
    DUE.is("1 of 1", x.drift(SORTED, 1, 1), 100);
  }

  private static void noSuchDrift() {
    DUE.of("13: NONE: none such");
    WhichShelf x = put(5, 3);
    for (int shelf : new int[] {-1, 6, LOWEST, HIGHEST}) {
      DUE.is("SHELF " + shelf + ", what 0", x.drift(shelf, 1, 0), NONE);
      DUE.is("SHELF " + shelf + ", what 1", x.drift(shelf, 1, 1), NONE);
    }
    DUE.is("the first SHELF", x.drift(ROW, 2, 0), ROW);
    DUE.is("the last SHELF", x.drift(BITS, 2, 0), ROW);
  }

  private static void driftOfNoneOffered() {
    DUE.of("13: NONE: .. none OFFERED");
    WhichShelf x = withBothLaws(put(5, 3));
    DUE.is("what 0", x.drift(ROW, 1, 0), NONE);
    DUE.is("what 1", x.drift(ROW, 1, 1), NONE);
    WhichShelf free = new WhichShelf();
    free.call(FIRST, 0);
    free.law(1, true);
    DUE.is("of no steps", free.drift(HEAP, 1, 1), NONE);
  }

  private static void driftOfAnotherWhat() {
    DUE.of("13: NONE: .. another what");
    for (int what : new int[] {-1, 2, LOWEST, HIGHEST}) {
      DUE.is("what " + what, put(5, 3).drift(ROW, 1, what), NONE);
    }
  }

  // ---- Promise 14, with the sum of STAGES

  private static void stageSums() {
    stagesWithoutCalls();
    stagesOfNoneOffered();
    stagesOfOneCall();
    stagesCostAFee();
    stagesCostEachThere();
    stagesCostEachLeft();
    stagesAtTheGreatestPrices();
    stagesOfAFullTrace();
    stagesFollowWhatIsTold();
  }

  private static void stagesWithoutCalls() {
    DUE.of("14: 0 without CALLS");
    DUE.is("of a new object", new WhichShelf().stages(), 0);
    WhichShelf x = put(1, 2, 3);
    DUE.is("of three", x.stages(), 3);
    x.drop(3);
    DUE.is("when all are gone", x.stages(), 0);
    x.law(1, true);
    DUE.is("with a LAW", x.stages(), 0);
  }

  private static void stagesOfNoneOffered() {
    DUE.of("14: NONE: no SHELF is OFFERED");
    DUE.is("both LAWS", withBothLaws(put(1, 2)).stages(), NONE);
    WhichShelf x = put(1);
    x.law(1, true);
    DUE.is("LAW 1", x.stages(), 1);
    x.call(FIRST, 0);
    DUE.is("LAW 1 and FIRST", x.stages(), NONE);
    x.drop(1);
    DUE.is("LAW 1 again", x.stages(), 1);
    DUE.is("both LAWS without CALLS", withBothLaws(new WhichShelf()).stages(), NONE);
  }

  private static void stagesOfOneCall() {
    DUE.of("14: each CALL on some OFFERED SHELF (one CALL)");
    WhichShelf x = new WhichShelf();
    x.call(LEAST, 0);
    DUE.is("sum", x.stages(), 0);
    DUE.row("SHELF", stagesOf(x), ROW);
    x.law(1, true);
    DUE.row("SHELF by LAW 1", stagesOf(x), TREE);
    DUE.is("moves", x.count(3), 0);
  }

  /** Steps of PUTs, WALKs, ASKs: ROW 10, 60, 60; SORTED 18, 60, 40; BITS 6, 640, 10. */
  private static WhichShelf walkedThenAsked() {
    WhichShelf x = put(0, 8, 16, 24, 32, 40);
    lay(x, WALK, new int[10]);
    lay(x, ASK, 40, 40, 40, 40, 40, 40, 40, 40, 40, 40);
    return x;
  }

  private static void stagesCostAFee() {
    DUE.of("14: moving from one to another between two CALLS costs FEE");
    WhichShelf x = priced(walkedThenAsked(), 37, 0);
    DUE.is("ROW, a move, BITS: one less than SORTED alone", x.stages(), 10 + 60 + 37 + 10);
    DUE.is("one move", x.count(3), 1);
    DUE.is("the last WALK", x.stage(15), ROW);
    DUE.is("the first ASK", x.stage(16), BITS);
    x.set(0, 38);
    DUE.is("as many as SORTED alone", x.stages(), 118);
    DUE.is("no move", x.count(3), 0);
    DUE.is("the first CALL", x.stage(0), SORTED);
    x.set(0, 39);
    DUE.is("more than SORTED alone", x.stages(), 118);
  }

  private static void stagesCostEachThere() {
    DUE.of("14: and EACH times how many there are then");
    WhichShelf x = priced(walkedThenAsked(), 1, 6);
    DUE.is("six there: 36 and 1", x.stages(), 10 + 60 + 37 + 10);
    DUE.is("one move", x.count(3), 1);
    x.set(0, 2);
    DUE.is("six there: 36 and 2", x.stages(), 118);
    // Ahead of the first PUT there is nothing, so EACH costs nothing: LEAST is 0 on a ROW, 64 on BITS
    WhichShelf empty = priced(new WhichShelf(), 5, 1000);
    empty.call(LEAST, 0);
    lay(empty, PUT, 0, 1, 2);
    lay(empty, ASK, 2, 2, 2, 2, 2, 2, 2, 2, 2, 2);
    DUE.is("none there: the FEE alone", empty.stages(), 5 + 3 + 10);
    DUE.row("stages", stagesOf(empty), 0, 5, 5, 5, 5, 5, 5, 5, 5, 5, 5, 5, 5, 5);
  }

  private static void stagesCostEachLeft() {
    DUE.of("14: how many there are then (between the two CALLS)");
    WhichShelf x = priced(put(9), 5, 1000);
    x.call(LEAST, 0);
    x.call(STRIKE, 9);
    lay(x, PUT, 0, 1, 2);
    lay(x, ASK, 2, 2, 2, 2, 2, 2, 2, 2, 2, 2);
    // ROW: 1 1 1; BITS: 1 10 1, then 1 each: the move is worth it where none is left, behind the STRIKE
    DUE.is("sum", x.stages(), 3 + 5 + 3 + 10);
    DUE.is("the STRIKE", x.stage(2), ROW);
    DUE.is("the PUT behind it", x.stage(3), BITS);
    DUE.is("one move", x.count(3), 1);
  }

  /** TREE alone is 2080 for the PUTs, 63 for the STRIKEs and 73: 2216, so two prices of 1000 are just worth it. */
  private static void stagesAtTheGreatestPrices() {
    DUE.of("14: The least sum of STAGES (FEE and EACH 1000)");
    WhichShelf x = priced(new WhichShelf(), 1000, 1000);
    x.law(1, true);
    for (int key = 0; key < 64; key++) {
      x.call(PUT, key);
    }
    for (int key = 0; key < 63; key++) {
      x.call(STRIKE, key);
    }
    lay(x, LEAST, new int[73]);
    DUE.is("TREE alone", x.sum(TREE, 0), 2216);
    DUE.is("BITS, a move with one there, SORTED", x.stages(), 127 + 2000 + 73);
    DUE.is("one move", x.count(3), 1);
    DUE.is("the last STRIKE", x.stage(126), BITS);
    DUE.is("the first LEAST", x.stage(127), SORTED);
    DUE.is("the last LEAST", x.stage(199), SORTED);
  }

  private static void stagesOfAFullTrace() {
    DUE.of("14: The least sum of STAGES (200 CALLS)");
    WhichShelf x = priced(new WhichShelf(), 1000, 1000);
    x.draw(1, 100, 1, 0);
    lay(x, WALK, new int[100]);
    DUE.is("TREE alone: a step each", x.stages(), 200);
    x.law(2, true);
    DUE.is("ROW alone: a hundred, 124 to grow, a hundred times a hundred", x.stages(), 100 + 124 + 10000);
    DUE.is("no moves", x.count(3), 0);
    DUE.is("its last stage", x.stage(199), ROW);
  }

  private static void stagesFollowWhatIsTold() {
    DUE.of("14: The least sum of STAGES (as things stand when it is asked)");
    WhichShelf x = priced(walkedThenAsked(), 1000, 0);
    DUE.is("sum", x.stages(), 118);
    x.set(0, 0);
    DUE.is("behind set: BITS 6, ROW 60, BITS 10", x.stages(), 76);
    x.law(2, true);
    DUE.is("behind law: ROW alone", x.stages(), 130);
    x.law(2, false);
    x.drop(10);
    DUE.is("behind drop", x.stages(), 66);
    x.call(ASK, 0);
    DUE.is("behind call", x.stages(), 67);
    x.draw(1, 1, 1, 0);
    DUE.is("behind draw", x.stages(), 68);
  }

  // ---- which of equal STAGES

  private static void stageChoices() {
    fewestMoves();
    lessShelfAtFirst();
    lessShelfWhereTheyPart();
    stagesOnOfferedAlone();
  }

  private static void fewestMoves() {
    DUE.of("15: of equal ones the fewest moves");
    // BITS: 1 1 1; ROW, ROW, BITS has the same sum and the less SHELF, but a move
    WhichShelf x = priced(fewestOnBits(), 0, 0);
    DUE.is("sum", x.stages(), 3);
    DUE.is("moves", x.count(3), 0);
    DUE.row("stages", stagesOf(x), BITS, BITS, BITS);
  }

  private static void lessShelfAtFirst() {
    DUE.of("15: then the less SHELF at the first CALL that is not alike");
    DUE.row("all are equal", stagesOf(put(5)), ROW);
    WhichShelf late = priced(put(0), 0, 0);
    late.call(WALK, 0);
    late.call(PUT, 1);
    late.call(ASK, 1);
    // WALK: 64 on BITS; ASK: 1 on BITS alone; the PUT between is 1 on ROW and on BITS
    DUE.is("sum", late.stages(), 4);
    DUE.row("moved late, as ROW is less", stagesOf(late), ROW, ROW, ROW, BITS);
    WhichShelf early = priced(put(0, 1), 0, 0);
    early.call(ASK, 1);
    early.call(PUT, 2);
    early.call(WALK, 0);
    DUE.is("sum", early.stages(), 7);
    DUE.row("moved early, as ROW is less", stagesOf(early), BITS, BITS, BITS, ROW, ROW);
  }

  private static void lessShelfWhereTheyPart() {
    DUE.of("15: .. at the first CALL that is not alike (not at the last)");
    WhichShelf x = priced(put(3, 0), 0, 0);
    x.call(STRIKE, 0);
    x.call(LEAST, 0);
    // ROW 1 1 2 1, HEAP 1 2 1 1, BITS 1 1 1 4: BITS BITS BITS ROW has the same sum and moves
    DUE.is("sum", x.stages(), 4);
    DUE.is("moves", x.count(3), 1);
    DUE.row("stages", stagesOf(x), ROW, ROW, HEAP, HEAP);
  }

  private static void stagesOnOfferedAlone() {
    DUE.of("15: each CALL on some OFFERED SHELF");
    WhichShelf x = priced(put(3, 0), 0, 0);
    x.call(STRIKE, 0);
    x.call(LEAST, 0);
    x.law(1, true);
    DUE.row("LAW 1", stagesOf(x), BITS, BITS, BITS, SORTED);
    x.law(1, false);
    x.law(2, true);
    DUE.row("LAW 2", stagesOf(x), ROW, ROW, ROW, ROW);
    x.law(2, false);
    x.call(FIRST, 0);
    DUE.row("FIRST at the end", stagesOf(x), ROW, ROW, ROW, ROW, ROW);
    DUE.is("its sum", x.stages(), 6);
  }

  // ---- Promise 15

  private static void stageNumbers() {
    noSuchStage();
    stageOfNoneOffered();
  }

  private static void noSuchStage() {
    DUE.of("15: NONE: none such");
    WhichShelf x = fewestOnBits();
    for (int i : new int[] {-1, 3, 199, 200, LOWEST, HIGHEST}) {
      DUE.is("CALL " + i, x.stage(i), NONE);
    }
    DUE.is("the first CALL", x.stage(0), BITS);
    DUE.is("the last CALL", x.stage(2), BITS);
    DUE.is("without CALLS", new WhichShelf().stage(0), NONE);
    x.drop(1);
    DUE.is("a gone CALL", x.stage(2), NONE);
    DUE.is("the last of 200", full().stage(199), TREE);
    DUE.is("behind the last of 200", full().stage(200), NONE);
  }

  private static void stageOfNoneOffered() {
    DUE.of("15: NONE: .. none is OFFERED");
    WhichShelf x = fewestOnBits();
    DUE.is("a CALL", x.stage(0), BITS);
    withBothLaws(x);
    DUE.is("both LAWS", x.stage(0), NONE);
    x.law(1, false);
    DUE.is("LAW 2", x.stage(0), ROW);
  }

  // ---- Promise 16

  private static void counts() {
    countOfCalls();
    countOfMoves();
    countOfLaws();
    countOfAnotherWhat();
  }

  private static void countOfCalls() {
    DUE.of("16: 0: CALLS, 1: FEE, 2: EACH");
    WhichShelf x = new WhichShelf();
    DUE.row("of a new object", new int[] {x.count(0), x.count(1), x.count(2)}, 0, 10, 2);
    DUE.is("of a full TRACE", full().count(0), 200);
    priced(x, 0, 1000);
    DUE.row("the bounds", new int[] {x.count(1), x.count(2)}, 0, 1000);
    priced(x, 1000, 0);
    DUE.row("the other way round", new int[] {x.count(1), x.count(2)}, 1000, 0);
  }

  private static void countOfMoves() {
    DUE.of("16: 3: moves in STAGES (0 without)");
    DUE.is("without CALLS", new WhichShelf().count(3), 0);
    DUE.is("of one CALL", put(5).count(3), 0);
    WhichShelf x = priced(walkedThenAsked(), 0, 0);
    DUE.is("BITS, ROW, BITS", x.count(3), 2);
    withBothLaws(x);
    DUE.is("none OFFERED", x.count(3), 0);
    x.law(1, false);
    x.law(2, false);
    DUE.is("again", x.count(3), 2);
    x.drop(26);
    DUE.is("when all are gone", x.count(3), 0);
    mostMoves();
  }

  /** A WALK is 64 on BITS and 2 on a ROW, an ASK of the second key 1 on BITS alone: each in turn, with free moves. */
  private static void mostMoves() {
    WhichShelf x = priced(put(0, 1), 0, 0);
    for (int i = 0; i < 99; i++) {
      x.call(WALK, 0);
      x.call(ASK, 1);
    }
    DUE.is("one ahead of each but the first WALK", x.count(3), 197);
    DUE.is("their sum", x.stages(), 2 + 99 * 3);
    DUE.is("the last WALK", x.stage(198), ROW);
    DUE.is("the last ASK", x.stage(199), BITS);
  }

  private static void countOfLaws() {
    DUE.of("16: 4: LAWS as bits (LAW 1: 2, LAW 2: 4; 8 if a CALL is FIRST)");
    WhichShelf x = new WhichShelf();
    DUE.is("none", x.count(4), 0);
    x.law(1, true);
    DUE.is("LAW 1", x.count(4), 2);
    x.law(2, true);
    DUE.is("both", x.count(4), 6);
    x.call(FIRST, 0);
    x.call(FIRST, 0);
    DUE.is("both, and two CALLS are FIRST", x.count(4), 14);
    x.law(1, false);
    DUE.is("LAW 2 and FIRST", x.count(4), 12);
    x.law(2, false);
    DUE.is("FIRST", x.count(4), 8);
    x.drop(1);
    DUE.is("one FIRST", x.count(4), 8);
    x.drop(1);
    DUE.is("no FIRST", x.count(4), 0);
  }

  private static void countOfAnotherWhat() {
    DUE.of("16: NONE for another what");
    for (int what : new int[] {-1, 5, LOWEST, HIGHEST}) {
      DUE.is("what " + what, put(5, 3).count(what), NONE);
      DUE.is("what " + what + " without CALLS", new WhichShelf().count(what), NONE);
    }
  }
}
