import java.util.NoSuchElementException;

/** Counts the answers that are not as due, and prints them. */
final class Due {
  /** What a call of answer() that throws counts as: no answer is as low. */
  static final int THROWN = Integer.MIN_VALUE;

  private final String test;
  private String sentence = "";
  private int sentences = 0;
  private int asked = 0;
  private int wrong = 0;

  Due(String test) {
    this.test = test;
  }

  /** The words of the document that the answers from here on hold it to. */
  void of(String words) {
    sentence = " [" + words + "]";
    sentences++;
  }

  void is(String call, int got, int want) {
    asked++;
    if (got != want) {
      wrong++;
      if (wrong <= 50) {
        System.out.println(test + sentence + ": " + call + " answered " + got + ", due is " + want);
      }
    }
  }

  void is(String call, boolean got, boolean want) {
    is(call, got ? 1 : 0, want ? 1 : 0);
  }

  void row(String what, int[] got, int... want) {
    is(what + ": how many", got.length, want.length);
    for (int i = 0; i < got.length && i < want.length; i++) {
      is(what + ": at " + i, got[i], want[i]);
    }
  }

  static int answer(WhichShelf shelf, int i) {
    try {
      return shelf.answer(i);
    } catch (NoSuchElementException none) {
      return THROWN;
    }
  }

  boolean anyWrong() {
    return wrong > 0;
  }

  void end() {
    String of = sentences == 0 ? "" : sentences + " sentences, ";
    System.out.println(test + ": " + of + asked + " answers, " + wrong + " not as due");
    if (wrong > 0) {
      System.exit(1);
    }
  }
}
