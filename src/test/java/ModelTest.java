import java.util.Random;

/** Random runs of calls, each answer held against the model's; the seeds are written, so every run is alike. */
public final class ModelTest {
  private static final int[] ODD = {-1, 0, 1, 63, 64, 65, 200, Integer.MIN_VALUE, Integer.MAX_VALUE};
  private static final Due DUE = new Due("ModelTest");

  public static void main(String[] args) {
    for (int run = 0; run < 400 && !DUE.anyWrong(); run++) {
      mixedRun(run);
    }
    for (int run = 0; run < 600 && !DUE.anyWrong(); run++) {
      longTrace(run);
    }
    for (int run = 0; run < 300 && !DUE.anyWrong(); run++) {
      shortTrace(run);
    }
    DUE.end();
  }

  private static int some(Random dice, int below) {
    return dice.nextInt(12) == 0 ? ODD[dice.nextInt(ODD.length)] : dice.nextInt(below);
  }

  /** Calls of all sorts, with wrong inputs among them, up to the 512 that an object is used for. */
  private static void mixedRun(int run) {
    Random dice = new Random(run);
    WhichShelf x = new WhichShelf();
    Model m = new Model();
    int keys = 1 + dice.nextInt(64);
    for (int i = 0; i < 512 && !DUE.anyWrong(); i++) {
      if (dice.nextInt(3) > 0) {
        change(dice, x, m, keys);
      } else {
        ask(dice, x, m);
      }
    }
  }

  private static void change(Random dice, WhichShelf x, Model m, int keys) {
    int a = some(dice, 8);
    int b = some(dice, keys);
    boolean is = dice.nextInt(3) == 0;
    switch (dice.nextInt(40)) {
      case 0:
        int seed = dice.nextInt();
        int n = some(dice, 101);
        int mask = some(dice, 256);
        DUE.is("draw " + seed + " " + n + " " + b + " " + mask, x.draw(seed, n, b, mask), m.draw(seed, n, b, mask));
        break;
      case 1:
        int gone = some(dice, 60);
        DUE.is("drop " + gone, x.drop(gone), m.drop(gone));
        break;
      case 2:
        int law = some(dice, 4);
        DUE.is("law " + law + " " + is, x.law(law, is), m.law(law, is));
        break;
      case 3:
        int what = some(dice, 2);
        int v = some(dice, dice.nextBoolean() ? 5 : 1001);
        DUE.is("set " + what + " " + v, x.set(what, v), m.set(what, v));
        break;
      default:
        // FIRST leaves the ROW alone on offer, so it is kept rare
        int kind = a == 6 && dice.nextInt(30) > 0 ? 0 : a;
        DUE.is("call " + kind + " " + b, x.call(kind, b), m.call(kind, b));
    }
  }

  private static void ask(Random dice, WhichShelf x, Model m) {
    int calls = Math.max(m.count(0), 1);
    int shelf = some(dice, 6);
    int i = some(dice, calls);
    int what = some(dice, 6);
    switch (dice.nextInt(10)) {
      case 0: DUE.is("told " + i + " " + what, x.told(i, what), m.told(i, what)); break;
      case 1: DUE.is("answer " + i, Due.answer(x, i), m.answer(i)); break;
      case 2: DUE.is("cost " + shelf + " " + i, x.cost(shelf, i), m.cost(shelf, i)); break;
      case 3: DUE.is("key " + shelf + " " + i, x.key(shelf, i), m.key(shelf, i)); break;
      case 4: DUE.is("sum " + shelf + " " + what, x.sum(shelf, what), m.sum(shelf, what)); break;
      case 5:
        int worst = some(dice, 250);
        int room = some(dice, 400);
        DUE.is("best " + worst + " " + room, x.best(worst, room), m.best(worst, room));
        break;
      case 6:
        int n = some(dice, calls + 1);
        int of = dice.nextInt(10) == 0 ? what : dice.nextInt(2);
        DUE.is("drift " + shelf + " " + n + " " + of, x.drift(shelf, n, of), m.drift(shelf, n, of));
        break;
      case 7: DUE.is("stages", x.stages(), m.stages()); break;
      case 8: DUE.is("stage " + i, x.stage(i), m.stage(i)); break;
      default: DUE.is("count " + what, x.count(what), m.count(what));
    }
  }

  /** A trace drawn to the brim, and as many questions as an object is used for, ahead of a drop and behind it. */
  private static void longTrace(int run) {
    Random dice = new Random(1000 + run);
    WhichShelf x = new WhichShelf();
    Model m = new Model();
    int keys = 1 + dice.nextInt(64);
    for (int i = 0; i < 2; i++) {
      int seed = dice.nextInt();
      int mask = dice.nextInt(4) == 0 ? 0 : dice.nextInt(256) & (dice.nextInt(4) > 0 ? 191 : 255);
      DUE.is("draw", x.draw(seed, 100, keys, mask), m.draw(seed, 100, keys, mask));
    }
    setAll(x, m, dice.nextInt(4), dice.nextInt(2), run % 5 == 0);
    for (int i = 0; i < 250; i++) {
      ask(dice, x, m);
    }
    int gone = dice.nextInt(201);
    DUE.is("drop", x.drop(gone), m.drop(gone));
    for (int i = 0; i < 250; i++) {
      ask(dice, x, m);
    }
  }

  private static void setAll(WhichShelf x, Model m, int fee, int each, boolean walksGoUp) {
    DUE.is("set 0 " + fee, x.set(0, fee), m.set(0, fee));
    DUE.is("set 1 " + each, x.set(1, each), m.set(1, each));
    DUE.is("law 1 " + walksGoUp, x.law(1, walksGoUp), m.law(1, walksGoUp));
  }

  /** A trace so short that all its STAGES can be tried; small prices make many of them equal. */
  private static void shortTrace(int run) {
    Random dice = new Random(2000 + run);
    WhichShelf x = new WhichShelf();
    Model m = new Model();
    setAll(x, m, dice.nextInt(2), dice.nextInt(2), run % 4 == 0);
    int seed = dice.nextInt();
    DUE.is("draw", x.draw(seed, 6, 6, 191), m.draw(seed, 6, 6, 191));
    int[] plan = m.planByTrying();
    DUE.is("stages", x.stages(), plan[0]);
    DUE.is("moves", x.count(3), plan[1]);
    for (int i = 0; i < 6; i++) {
      DUE.is("stage " + i, x.stage(i), plan[2 + i]);
    }
  }
}
