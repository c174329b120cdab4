/** Promises 1 to 8: a test of its own for each sentence that names a boundary. */
public final class CallsBoundaryTest extends Trial {
  private static final Due DUE = new Due("CallsBoundaryTest");

  public static void main(String[] args) {
    newObject();
    calls();
    draws();
    drops();
    laws();
    prices();
    tellings();
    answers();
    DUE.end();
  }

  // ---- Promise 1

  private static void newObject() {
    newTraceIsEmpty();
    newObjectHasNoLaws();
    newObjectHasItsPrices();
    newObjectIsItsOwn();
  }

  private static void newTraceIsEmpty() {
    DUE.of("1: An empty TRACE");
    WhichShelf x = new WhichShelf();
    DUE.is("CALLS", x.count(0), 0);
    DUE.is("KIND of CALL 0", x.told(0, 0), NONE);
    DUE.is("ANSWER of CALL 0", Due.answer(x, 0), Due.THROWN);
    for (int shelf = 0; shelf < 6; shelf++) {
      DUE.is("cost of CALL 0", x.cost(shelf, 0), NONE);
      DUE.is("key at place 0", x.key(shelf, 0), NONE);
      DUE.is("all steps", x.sum(shelf, 0), 0);
    }
    DUE.is("the first CALL is number 0", x.call(WALK, 0), 0);
    DUE.is("nothing is there", Due.answer(x, 0), 0);
  }

  private static void newObjectHasNoLaws() {
    DUE.of("1: no LAWS");
    WhichShelf x = new WhichShelf();
    DUE.is("LAWS as bits", x.count(4), 0);
    DUE.row("OFFERED", offered(x), 1, 1, 1, 1, 1, 1);
  }

  private static void newObjectHasItsPrices() {
    DUE.of("1: FEE 10, EACH 2");
    DUE.is("FEE", new WhichShelf().count(1), 10);
    DUE.is("EACH", new WhichShelf().count(2), 2);
    DUE.is("FEE that was", new WhichShelf().set(0, 0), 10);
    DUE.is("EACH that was", new WhichShelf().set(1, 0), 2);
  }

  private static void newObjectIsItsOwn() {
    DUE.of("1: A new object");
    WhichShelf other = put(1, 2, 3, 4, 5);
    other.law(1, true);
    other.set(0, 77);
    WhichShelf x = new WhichShelf();
    DUE.row("counts behind another's calls", new int[] {x.count(0), x.count(1), x.count(4)}, 0, 10, 0);
    x.call(PUT, 9);
    DUE.is("the other's CALLS", other.count(0), 5);
    DUE.is("the other's first key", other.key(ROW, 0), 1);
  }

  // ---- Promise 2

  private static void calls() {
    callTellsItsNumber();
    callOfNoSuchKind();
    callOfNoSuchKey();
    callsFillTheTrace();
    callFitsAgainBehindDrop();
  }

  private static void callTellsItsNumber() {
    DUE.of("2: A CALL more: its number");
    WhichShelf x = new WhichShelf();
    for (int i = 0; i < MOST; i++) {
      DUE.is("call", x.call(i % 8, i % 64), i);
    }
    DUE.is("CALLS", x.count(0), MOST);
    DUE.is("KIND of the last", x.told(199, 0), 199 % 8);
    DUE.is("KEY of the last", x.told(199, 1), 199 % 64);
  }

  private static void callOfNoSuchKind() {
    DUE.of("2: Refused: no such KIND");
    WhichShelf x = put(5, 3);
    int[] before = everything(x);
    for (int kind : new int[] {-1, 8, 9, LOWEST, HIGHEST}) {
      DUE.is("KIND " + kind, x.call(kind, 3), NONE);
    }
    DUE.row("nothing changed", everything(x), before);
    DUE.is("the least KIND", x.call(PUT, 3), 2);
    DUE.is("the greatest KIND", x.call(MANY, 3), 3);
  }

  private static void callOfNoSuchKey() {
    DUE.of("2: Refused: no such .. KEY");
    WhichShelf x = put(5, 3);
    int[] before = everything(x);
    for (int key : new int[] {-1, 64, LOWEST, HIGHEST}) {
      for (int kind = 0; kind < 8; kind++) {
        DUE.is("KIND " + kind + " with KEY " + key, x.call(kind, key), NONE);
      }
    }
    DUE.row("nothing changed", everything(x), before);
    for (int kind = 0; kind < 8; kind++) {
      DUE.is("the least KEY", x.call(kind, 0), 2 + 2 * kind);
      DUE.is("the greatest KEY", x.call(kind, 63), 3 + 2 * kind);
    }
  }

  private static void callsFillTheTrace() {
    DUE.of("2: Refused: .. 200");
    WhichShelf x = full();
    int[] before = wholes(x);
    for (int kind = 0; kind < 8; kind++) {
      DUE.is("KIND " + kind + " as the 201st CALL", x.call(kind, 0), NONE);
    }
    DUE.row("nothing changed", wholes(x), before);
    DUE.is("no CALL 200", x.told(200, 0), NONE);
    x = new WhichShelf();
    x.draw(1, 100, 1, 0);
    x.draw(1, 99, 1, 0);
    DUE.is("the 200th CALL", x.call(PUT, 63), 199);
    DUE.is("it is there", x.key(ROW, 199), 63);
  }

  private static void callFitsAgainBehindDrop() {
    DUE.of("2: Refused: .. 200 (no longer when one is gone)");
    WhichShelf x = full();
    x.drop(1);
    DUE.is("one more", x.call(PUT, 7), 199);
    DUE.is("and another", x.call(PUT, 7), NONE);
    DUE.is("KEY of the last", x.told(199, 1), 7);
    DUE.is("ANSWER of the last", Due.answer(x, 199), 200);
  }

  // ---- Promise 3

  private static void draws() {
    drawsOfNoneToAHundred();
    drawsOfOneToSixtyFourKeys();
    drawsWithAMask();
    drawsThatWrapRound();
    drawsBeginAtTheSeed();
    kindsWithoutABit();
    drawTellsHowManyThereAre();
    drawsOfMoreThanTwoHundred();
    refusedDraws();
  }

  private static void drawsOfNoneToAHundred() {
    DUE.of("3: n (0 .. 100)");
    WhichShelf x = new WhichShelf();
    DUE.is("n -1", x.draw(1, -1, 64, 255), NONE);
    DUE.is("n 0", x.draw(1, 0, 64, 255), 0);
    DUE.is("n 101", x.draw(1, 101, 64, 255), NONE);
    DUE.is("lowest n", x.draw(1, LOWEST, 64, 255), NONE);
    DUE.is("highest n", x.draw(1, HIGHEST, 64, 255), NONE);
    DUE.is("CALLS", x.count(0), 0);
    DUE.is("n 1", x.draw(1, 1, 64, 255), 1);
    DUE.is("n 100", x.draw(1, 100, 64, 255), 101);
  }

  private static void drawsOfOneToSixtyFourKeys() {
    DUE.of("3: keys (1 .. 64)");
    WhichShelf x = new WhichShelf();
    for (int keys : new int[] {0, -1, 65, LOWEST, HIGHEST}) {
      DUE.is("keys " + keys, x.draw(4, 2, keys, 255), NONE);
      DUE.is("keys " + keys + " for no CALL", x.draw(4, 0, keys, 255), NONE);
    }
    DUE.is("keys 64", x.draw(4, 2, 64, 255), 2);
    DUE.is("a KEY of 64", x.told(0, 1), 38);
    DUE.is("the greatest KEY of 64", x.told(1, 1), 63);
    DUE.is("keys 63", x.draw(4, 2, 63, 255), 4);
    DUE.is("keys 1", x.draw(4, 5, 1, 255), 9);
    for (int i = 4; i < 9; i++) {
      DUE.is("the KEY of 1", x.told(i, 1), 0);
    }
  }

  private static void drawsWithAMask() {
    DUE.of("3: mask (0 .. 255)");
    WhichShelf x = new WhichShelf();
    for (int mask : new int[] {-1, 256, LOWEST, HIGHEST}) {
      DUE.is("mask " + mask, x.draw(0, 4, 64, mask), NONE);
      DUE.is("mask " + mask + " for no CALL", x.draw(0, 0, 64, mask), NONE);
    }
    DUE.is("mask 0", x.draw(0, 4, 64, 0), 4);
    DUE.row("all are PUT", kindsFrom(x, 0), PUT, PUT, PUT, PUT);
    DUE.is("mask 255", x.draw(0, 4, 64, 255), 8);
    DUE.row("KINDS as drawn", kindsFrom(x, 4), PUT, LEAST, STRIKE, NEXT);
  }

  private static int[] kindsFrom(WhichShelf x, int from) {
    return new int[] {x.told(from, 0), x.told(from + 1, 0), x.told(from + 2, 0), x.told(from + 3, 0)};
  }

  // Reckoned with longs and floorMod here, so that neither the wrap-around nor the sign is taken over from the class.
  private static void drawsThatWrapRound() {
    DUE.of("3: R = R * 1103515245 + 12345 (as ints), .. (R >>> 16)");
    for (int seed : new int[] {0, 1, -1, LOWEST, HIGHEST, 0x7FFF0000, 0x80000001}) {
      WhichShelf x = new WhichShelf();
      x.draw(seed, 60, 53, 255);
      long r = seed;
      for (int i = 0; i < 60; i++) {
        r = Math.floorMod(r * 1103515245L + 12345L, 1L << 32);
        DUE.is("KIND " + i + " of seed " + seed, x.told(i, 0), (int) (r / 65536 % 8));
        r = Math.floorMod(r * 1103515245L + 12345L, 1L << 32);
        DUE.is("KEY " + i + " of seed " + seed, x.told(i, 1), (int) (r / 65536 % 53));
      }
    }
  }

  private static void drawsBeginAtTheSeed() {
    DUE.of("3: R = seed");
    WhichShelf x = new WhichShelf();
    x.draw(0, 4, 64, 255);
    x.draw(0, 4, 64, 255);
    DUE.row("KINDS again", kindsFrom(x, 4), PUT, LEAST, STRIKE, NEXT);
    DUE.row("KEYS again", new int[] {x.told(4, 1), x.told(5, 1), x.told(6, 1), x.told(7, 1)}, 28, 37, 31, 29);
  }

  private static void kindsWithoutABit() {
    DUE.of("3: KINDS that have no bit in mask .. are PUT");
    for (int kind = 1; kind < 8; kind++) {
      WhichShelf x = new WhichShelf();
      x.draw(12, 60, 64, 255);
      x.draw(12, 60, 64, 255 - (1 << kind));
      WhichShelf alone = new WhichShelf();
      alone.draw(12, 60, 64, 1 << kind);
      for (int i = 0; i < 60; i++) {
        int drawn = x.told(i, 0);
        DUE.is("KIND " + drawn + " without bit " + kind, x.told(60 + i, 0), drawn == kind ? PUT : drawn);
        DUE.is("its KEY is drawn all the same", x.told(60 + i, 1), x.told(i, 1));
        DUE.is("KIND " + drawn + " with bit " + kind + " alone", alone.told(i, 0), drawn == kind ? kind : PUT);
      }
    }
  }

  private static void drawTellsHowManyThereAre() {
    DUE.of("3: how many CALLS there are");
    WhichShelf x = put(1, 2, 3);
    DUE.is("none more", x.draw(9, 0, 1, 0), 3);
    DUE.is("two more", x.draw(9, 2, 1, 0), 5);
    DUE.is("none of an empty TRACE", new WhichShelf().draw(9, 0, 1, 0), 0);
  }

  private static void drawsOfMoreThanTwoHundred() {
    DUE.of("3: Refused: .. more than 200");
    WhichShelf x = put(1);
    DUE.is("to 101", x.draw(9, 100, 1, 0), 101);
    int[] before = wholes(x);
    DUE.is("to 201", x.draw(9, 100, 1, 0), NONE);
    DUE.row("none of them was laid", wholes(x), before);
    DUE.is("to 200", x.draw(9, 99, 1, 0), 200);
    DUE.is("one more", x.draw(9, 1, 1, 0), NONE);
    DUE.is("a hundred more", x.draw(9, 100, 1, 0), NONE);
    DUE.is("none more", x.draw(9, 0, 1, 0), 200);
    x.drop(2);
    DUE.is("three for two", x.draw(9, 3, 1, 0), NONE);
    DUE.is("two for two", x.draw(9, 2, 1, 0), 200);
  }

  private static void refusedDraws() {
    DUE.of("3: Refused: others (nothing changed)");
    WhichShelf x = put(5, 3);
    int[] before = everything(x);
    x.draw(1, -1, 64, 255);
    x.draw(1, 101, 64, 255);
    x.draw(1, 5, 0, 255);
    x.draw(1, 5, 65, 255);
    x.draw(1, 5, 64, -1);
    x.draw(1, 5, 64, 256);
    DUE.row("nothing changed", everything(x), before);
  }

  // ---- Promise 4

  private static void drops() {
    dropOfNoneOneAll();
    dropOfNotSoMany();
    dropBelowNone();
    droppedCallsAreGone();
    droppedShelvesAreAsBefore();
    droppedFirst();
  }

  private static void dropOfNoneOneAll() {
    DUE.of("4: how many are left");
    WhichShelf x = put(1, 2, 3);
    int[] before = everything(x);
    DUE.is("none", x.drop(0), 3);
    DUE.row("nothing gone", everything(x), before);
    DUE.is("one", x.drop(1), 2);
    DUE.is("all", x.drop(2), 0);
    DUE.is("none of none", x.drop(0), 0);
    DUE.is("all of a full TRACE", full().drop(200), 0);
  }

  private static void dropOfNotSoMany() {
    DUE.of("4: Refused: not so many");
    WhichShelf x = put(1, 2, 3);
    int[] before = everything(x);
    DUE.is("one too many", x.drop(4), NONE);
    DUE.is("as many as there can be", x.drop(200), NONE);
    DUE.is("highest", x.drop(HIGHEST), NONE);
    DUE.row("nothing changed", everything(x), before);
    DUE.is("one of none", new WhichShelf().drop(1), NONE);
    DUE.is("201 of 200", full().drop(201), NONE);
  }

  private static void dropBelowNone() {
    DUE.of("4: Refused: .. n below 0");
    WhichShelf x = put(1, 2, 3);
    int[] before = everything(x);
    DUE.is("-1", x.drop(-1), NONE);
    DUE.is("lowest", x.drop(LOWEST), NONE);
    DUE.row("nothing changed", everything(x), before);
    DUE.is("-1 of none", new WhichShelf().drop(-1), NONE);
  }

  private static void droppedCallsAreGone() {
    DUE.of("4: The last n CALLS are gone");
    WhichShelf x = put(1, 2, 3);
    x.drop(1);
    DUE.is("KIND of the gone one", x.told(2, 0), NONE);
    DUE.is("ANSWER of the gone one", Due.answer(x, 2), Due.THROWN);
    DUE.is("cost of the gone one", x.cost(ROW, 2), NONE);
    DUE.is("stage of the gone one", x.stage(2), NONE);
    DUE.is("drift over the gone one", x.drift(ROW, 3, 0), NONE);
    DUE.is("the one ahead of it stays", x.told(1, 1), 2);
    DUE.is("the next takes its number", x.call(WALK, 0), 2);
    DUE.is("and finds two", Due.answer(x, 2), 2);
  }

  /** Each CALL of these changes a shelf in a way of its own; dropped, the shelf must be as if it had never been. */
  private static void droppedShelvesAreAsBefore() {
    DUE.of("4: The last n CALLS are gone (on the SHELVES too)");
    int[][] last = {{PUT, 7}, {STRIKE, 20}, {STRIKE, 10}, {STRIKE, 63}, {WALK, 0}, {FIRST, 0}};
    for (int[] call : last) {
      WhichShelf x = put(20, 10, 30, 20);
      int[] before = everything(x);
      x.call(call[0], call[1]);
      x.call(PUT, 2);
      x.drop(2);
      DUE.row("behind KIND " + call[0] + " of " + call[1], everything(x), before);
    }
    WhichShelf grown = full();
    grown.drop(196);
    DUE.row("ROOM of four again", roomsNow(grown), 4, 4, 16, 4, 4, 64);
    DUE.is("the ROW grows again", steps(grown, ROW, PUT, 0), 5);
    WhichShelf hashed = full();
    hashed.drop(184);
    DUE.is("ROOM of sixteen again", hashed.sum(HASH, 5), 40);
    DUE.is("the HASH grows again", steps(hashed, HASH, PUT, 0), 17);
  }

  private static void droppedFirst() {
    DUE.of("4: The last n CALLS are gone (FIRST no longer needs the ROW)");
    WhichShelf x = put(1);
    lay(x, FIRST, 0, 0);
    x.drop(1);
    DUE.is("one FIRST is left", x.count(4), 8);
    DUE.row("the ROW alone", offered(x), 1, 0, 0, 0, 0, 0);
    x.drop(1);
    DUE.is("no FIRST is left", x.count(4), 0);
    DUE.row("all", offered(x), 1, 1, 1, 1, 1, 1);
  }

  // ---- Promise 5

  private static void laws() {
    lawsHoldOrNot();
    noSuchLaw();
  }

  private static void lawsHoldOrNot() {
    DUE.of("5: LAW (1, 2) holds or not: true");
    for (int law = 1; law <= 2; law++) {
      WhichShelf x = new WhichShelf();
      int bit = 1 << law;
      DUE.is("not told, and not to hold", x.law(law, false), true);
      DUE.is("holds not", x.count(4), 0);
      DUE.is("told", x.law(law, true), true);
      DUE.is("holds", x.count(4), bit);
      DUE.is("told again", x.law(law, true), true);
      DUE.is("holds still", x.count(4), bit);
      DUE.is("to hold no more", x.law(law, false), true);
      DUE.is("holds no more", x.count(4), 0);
    }
    WhichShelf both = new WhichShelf();
    both.law(1, true);
    both.law(2, true);
    DUE.is("both", both.count(4), 6);
    both.law(1, false);
    DUE.is("the other one stays", both.count(4), 4);
  }

  private static void noSuchLaw() {
    DUE.of("5: Refused: no such LAW");
    WhichShelf x = put(5, 3);
    x.law(2, true);
    int[] before = everything(x);
    for (int law : new int[] {0, 3, -1, -2, 4, LOWEST, HIGHEST}) {
      DUE.is("LAW " + law + " to hold", x.law(law, true), false);
      DUE.is("LAW " + law + " not to hold", x.law(law, false), false);
    }
    DUE.row("nothing changed", everything(x), before);
  }

  // ---- Promise 6

  private static void prices() {
    pricesTellWhatTheyWere();
    pricesBeyondTheirBounds();
    noSuchPrice();
  }

  private static void pricesTellWhatTheyWere() {
    DUE.of("6: FEE (what 0), EACH (1) becomes v (0 .. 1000): what it was");
    WhichShelf x = new WhichShelf();
    DUE.is("FEE to the least", x.set(0, 0), 10);
    DUE.is("FEE to the greatest", x.set(0, 1000), 0);
    DUE.is("FEE to the same", x.set(0, 1000), 1000);
    DUE.is("EACH as it was", x.count(2), 2);
    DUE.is("EACH to the least", x.set(1, 0), 2);
    DUE.is("EACH to the greatest", x.set(1, 1000), 0);
    DUE.is("EACH to 1", x.set(1, 1), 1000);
    DUE.is("FEE as it was", x.count(1), 1000);
    DUE.is("EACH now", x.count(2), 1);
  }

  private static void pricesBeyondTheirBounds() {
    DUE.of("6: v (0 .. 1000) .. Refused: others");
    WhichShelf x = put(5, 3);
    int[] before = everything(x);
    for (int what = 0; what < 2; what++) {
      for (int v : new int[] {-1, 1001, LOWEST, HIGHEST}) {
        DUE.is("what " + what + ", v " + v, x.set(what, v), NONE);
      }
    }
    DUE.row("nothing changed", everything(x), before);
  }

  private static void noSuchPrice() {
    DUE.of("6: what 0 .. (1) .. Refused: others");
    WhichShelf x = put(5, 3);
    int[] before = everything(x);
    for (int what : new int[] {-1, 2, LOWEST, HIGHEST}) {
      DUE.is("what " + what, x.set(what, 5), NONE);
    }
    DUE.row("nothing changed", everything(x), before);
  }

  // ---- Promise 7

  private static void tellings() {
    toldOfNoSuchCall();
    toldOfAnotherWhat();
    toldHowManyBehind();
  }

  private static void toldOfNoSuchCall() {
    DUE.of("7: NONE: none such");
    WhichShelf x = put(5, 3);
    for (int i : new int[] {-1, 2, 199, 200, LOWEST, HIGHEST}) {
      for (int what = 0; what < 3; what++) {
        DUE.is("CALL " + i + ", what " + what, x.told(i, what), NONE);
      }
    }
    DUE.is("the first CALL", x.told(0, 1), 5);
    DUE.is("the last CALL", x.told(1, 1), 3);
    DUE.is("without CALLS", new WhichShelf().told(0, 2), NONE);
    DUE.is("the last of 200", full().told(199, 2), 200);
  }

  private static void toldOfAnotherWhat() {
    DUE.of("7: NONE: .. another what");
    WhichShelf x = put(5, 3);
    for (int what : new int[] {-1, 3, LOWEST, HIGHEST}) {
      DUE.is("what " + what, x.told(0, what), NONE);
      DUE.is("what " + what + " of no CALL", x.told(2, what), NONE);
    }
  }

  private static void toldHowManyBehind() {
    DUE.of("7: 2: how many there are behind it");
    WhichShelf x = new WhichShelf();
    int[][] calls = {{STRIKE, 4}, {PUT, 4}, {PUT, 4}, {ASK, 4}, {STRIKE, 5}, {STRIKE, 4}, {STRIKE, 4}, {STRIKE, 4}};
    int[] behind = {0, 1, 2, 2, 2, 1, 0, 0};
    for (int i = 0; i < calls.length; i++) {
      x.call(calls[i][0], calls[i][1]);
    }
    for (int i = 0; i < calls.length; i++) {
      DUE.is("CALL " + i, x.told(i, 2), behind[i]);
    }
  }

  // ---- Promise 8, with the first of the terms

  private static void answers() {
    answersOfNothing();
    answerOfPutAndWalk();
    answerOfAskAndStrike();
    strikeTakesTheOnePutFirst();
    answerOfLeast();
    answerOfNext();
    answerOfFirst();
    answerOfMany();
    noSuchAnswer();
  }

  private static int answered(WhichShelf x, int kind, int key) {
    return Due.answer(x, x.call(kind, key));
  }

  private static void answersOfNothing() {
    DUE.of("8: the key (NONE if there is none) or number");
    int[] ofNothing = {1, 0, 0, 0, NONE, NONE, NONE, 0};
    for (int kind = 0; kind < 8; kind++) {
      DUE.is("KIND " + kind + " on a new object", answered(new WhichShelf(), kind, 0), ofNothing[kind]);
      WhichShelf x = put(9);
      x.call(STRIKE, 9);
      DUE.is("KIND " + kind + " when all are struck", answered(x, kind, 9), ofNothing[kind]);
    }
  }

  private static void answerOfPutAndWalk() {
    DUE.of("8: of PUT and WALK how many there are then");
    WhichShelf x = put(4);
    DUE.is("PUT of a like one", answered(x, PUT, 4), 2);
    DUE.is("WALK", answered(x, WALK, 63), 2);
    x.call(STRIKE, 4);
    DUE.is("WALK behind a STRIKE", answered(x, WALK, 0), 1);
    DUE.is("PUT of the 200th", Due.answer(full(), 199), 200);
  }

  private static void answerOfAskAndStrike() {
    DUE.of("8: of ASK, STRIKE 1 or 0");
    WhichShelf x = put(0, 63, 63);
    DUE.is("ASK of the least key", answered(x, ASK, 0), 1);
    DUE.is("ASK of the greatest key", answered(x, ASK, 63), 1);
    DUE.is("ASK of none", answered(x, ASK, 1), 0);
    DUE.is("STRIKE of none", answered(x, STRIKE, 62), 0);
    DUE.is("STRIKE of one of two", answered(x, STRIKE, 63), 1);
    DUE.is("STRIKE of the other", answered(x, STRIKE, 63), 1);
    DUE.is("STRIKE when both are gone", answered(x, STRIKE, 63), 0);
    DUE.is("ASK when both are gone", answered(x, ASK, 63), 0);
    DUE.is("the other key stays", answered(x, ASK, 0), 1);
  }

  private static void strikeTakesTheOnePutFirst() {
    DUE.of("8: STRIKE (one of it, of like ones the one put first, if it is there)");
    WhichShelf x = put(5, 3, 5, 4);
    x.call(STRIKE, 6);
    DUE.row("none is gone", keysOn(x, ROW), 5, 3, 5, 4);
    x.call(STRIKE, 5);
    DUE.row("the first is gone", keysOn(x, ROW), 3, 5, 4);
    DUE.is("FIRST is another", answered(x, FIRST, 5), 3);
  }

  private static void answerOfLeast() {
    DUE.of("8: LEAST (key)");
    WhichShelf x = put(63);
    DUE.is("the greatest key", answered(x, LEAST, 0), 63);
    x.call(PUT, 0);
    DUE.is("the least key, whatever KEY is", answered(x, LEAST, 63), 0);
    x.call(STRIKE, 0);
    DUE.is("when it is struck", answered(x, LEAST, 0), 63);
  }

  private static void answerOfNext() {
    DUE.of("8: NEXT (the least that is not below KEY)");
    WhichShelf x = put(40, 20, 0);
    DUE.is("KEY itself", answered(x, NEXT, 20), 20);
    DUE.is("one above", answered(x, NEXT, 21), 40);
    DUE.is("one below", answered(x, NEXT, 19), 20);
    DUE.is("the least KEY", answered(x, NEXT, 0), 0);
    DUE.is("the greatest there", answered(x, NEXT, 40), 40);
    DUE.is("above all", answered(x, NEXT, 41), NONE);
    DUE.is("the greatest KEY", answered(x, NEXT, 63), NONE);
    x.call(PUT, 63);
    DUE.is("the greatest KEY there", answered(x, NEXT, 63), 63);
  }

  private static void answerOfFirst() {
    DUE.of("8: FIRST (of those there the one put first)");
    WhichShelf x = put(40, 20);
    DUE.is("the first", answered(x, FIRST, 20), 40);
    DUE.is("it stays there", answered(x, FIRST, 0), 40);
    x.call(STRIKE, 40);
    x.call(PUT, 40);
    DUE.is("the first of those there", answered(x, FIRST, 0), 20);
  }

  private static void answerOfMany() {
    DUE.of("8: MANY (how many of KEY there are) .. Keys can be there several times");
    WhichShelf x = put(63, 63, 62);
    DUE.is("two", answered(x, MANY, 63), 2);
    DUE.is("one", answered(x, MANY, 62), 1);
    DUE.is("none", answered(x, MANY, 0), 0);
    WhichShelf most = full();
    most.drop(1);
    DUE.is("199 of one key", answered(most, MANY, 0), 199);
  }

  private static void noSuchAnswer() {
    DUE.of("8: NoSuchElementException: none such");
    WhichShelf x = put(5, 3);
    for (int i : new int[] {-1, 2, 199, 200, LOWEST, HIGHEST}) {
      DUE.is("CALL " + i, Due.answer(x, i), Due.THROWN);
    }
    DUE.is("the first CALL", Due.answer(x, 0), 1);
    DUE.is("the last CALL", Due.answer(x, 1), 2);
    DUE.is("without CALLS", Due.answer(new WhichShelf(), 0), Due.THROWN);
    DUE.is("the last of 200", Due.answer(full(), 199), 200);
    DUE.is("behind the last of 200", Due.answer(full(), 200), Due.THROWN);
    DUE.is("CALLS behind it all", x.count(0), 2);
  }
}
